/-! ===== all methods: blocks behind the last are empty; what was checked of each one, of all of them ===== -/
theorem ltA_z {P : Nat → Prop} : ∀ m, m < 0 → P m := fun _ h => absurd h (Nat.not_lt_zero _)
theorem ltA_s {P : Nat → Prop} {n : Nat} (h : ∀ m, m < n → P m) (hn : P n) : ∀ m, m < n + 1 → P m := fun m hm => by
  by_cases q : m = n
  · rw [q]; exact hn
  · exact h m (by omega)
theorem okM_at {m n : Nat} (h : okM m = true) (hn : (bp m).2.2 = n) (hb : ∀ k, (bp m).1 (k + n) = []) : ∀ k, okF (mInf m).2.2.1 (decide ((mInf m).1.name = "<init>")) (mInf m).2.2.2.2.1 (mInf m).2.1 (bp m).2.1 ((bp m).2.1 k) ((bp m).1 k) = true := by
  intro k
  by_cases hk : k < n
  · unfold okM at h
    rw [hn] at h
    exact List.all_eq_true.mp h k (List.mem_range.mpr hk)
  · obtain ⟨j, rfl⟩ : ∃ j, k = j + n := ⟨k - n, by omega⟩
    rw [hb j]
    unfold okF
    rfl
theorem bd0 (k : Nat) : BX1_init (k + 1) = [] := rfl
theorem bd1 (k : Nat) : BX1_reads (k + 7) = [] := rfl
theorem bd2 (k : Nat) : BX1_take (k + 6) = [] := rfl
theorem bd3 (k : Nat) : BX1_line (k + 11) = [] := rfl
theorem bd4 (k : Nat) : BX1_order (k + 11) = [] := rfl
theorem bd5 (k : Nat) : BX1_chain (k + 5) = [] := rfl
theorem bd6 (k : Nat) : BX1_joinsAt (k + 19) = [] := rfl
theorem bd7 (k : Nat) : BX1_part (k + 5) = [] := rfl
theorem bd8 (k : Nat) : BX1_single (k + 17) = [] := rfl
theorem bd9 (k : Nat) : BX1_value (k + 19) = [] := rfl
theorem bd10 (k : Nat) : BX3_init (k + 1) = [] := rfl
theorem bd11 (k : Nat) : BX3_begin (k + 3) = [] := rfl
theorem bd12 (k : Nat) : BX3_copy (k + 3) = [] := rfl
theorem bd13 (k : Nat) : BX3_hourOfHearing (k + 1) = [] := rfl
theorem bd14 (k : Nat) : BX3_knows (k + 3) = [] := rfl
theorem bd15 (k : Nat) : BX3_hears (k + 4) = [] := rfl
theorem bd16 (k : Nat) : BX3_knowersOf (k + 7) = [] := rfl
theorem bd17 (k : Nat) : BX3_knownBy (k + 5) = [] := rfl
theorem bd18 (k : Nat) : BX3_knownByAll (k + 3) = [] := rfl
theorem bd19 (k : Nat) : BX3_walkersOn (k + 5) = [] := rfl
theorem bd20 (k : Nat) : BX3_walkersWith (k + 5) = [] := rfl
theorem bd21 (k : Nat) : BX3_tally (k + 10) = [] := rfl
theorem bd22 (k : Nat) : BX3_passHours (k + 3) = [] := rfl
theorem bd23 (k : Nat) : BX3_giveOrders (k + 8) = [] := rfl
theorem bd24 (k : Nat) : BX3_carryOut (k + 7) = [] := rfl
theorem bd25 (k : Nat) : BX3_loseWalkers (k + 4) = [] := rfl
theorem bd26 (k : Nat) : BX3_keepWalker (k + 1) = [] := rfl
theorem bd27 (k : Nat) : BX3_beginRumours (k + 4) = [] := rfl
theorem bd28 (k : Nat) : BX3_moveWalkers (k + 5) = [] := rfl
theorem bd29 (k : Nat) : BX3_sendWalkers (k + 6) = [] := rfl
theorem bd30 (k : Nat) : BX3_sendFrom (k + 4) = [] := rfl
theorem bd31 (k : Nat) : BX4_init (k + 1) = [] := rfl
theorem bd32 (k : Nat) : BX4_look (k + 3) = [] := rfl
theorem bd33 (k : Nat) : BX4_lookAt (k + 11) = [] := rfl
theorem bd34 (k : Nat) : BX4_lookAtRoad (k + 3) = [] := rfl
theorem bd35 (k : Nat) : BX4_lookAtRumour (k + 2) = [] := rfl
theorem bd36 (k : Nat) : BX4_countOrder (k + 2) = [] := rfl
theorem bd37 (k : Nat) : BX4_note (k + 2) = [] := rfl
theorem bd38 (k : Nat) : BX4_tellNew (k + 4) = [] := rfl
theorem bd39 (k : Nat) : BX4_find (k + 2) = [] := rfl
theorem bd40 (k : Nat) : BX4_indexOf (k + 4) = [] := rfl
theorem bd41 (k : Nat) : BX4_numberOf (k + 3) = [] := rfl
theorem bd42 (k : Nat) : BX5_init (k + 1) = [] := rfl
theorem bd43 (k : Nat) : BX5_clear (k + 1) = [] := rfl
theorem bd44 (k : Nat) : BX5_addCode (k + 2) = [] := rfl
theorem bd45 (k : Nat) : BX5_codeAt (k + 3) = [] := rfl
theorem bd46 (k : Nat) : BX5_addRoad (k + 2) = [] := rfl
theorem bd47 (k : Nat) : BX5_addRumour (k + 2) = [] := rfl
theorem bd48 (k : Nat) : BX5_addOrder (k + 2) = [] := rfl
theorem bd49 (k : Nat) : BX5_kindOfOrder (k + 1) = [] := rfl
theorem bd50 (k : Nat) : BX5_targetOfOrder (k + 1) = [] := rfl
theorem bd51 (k : Nat) : BX6_init (k + 1) = [] := rfl
theorem bd52 (k : Nat) : BX6_reckon (k + 8) = [] := rfl
theorem bd53 (k : Nat) : BX6_push (k + 2) = [] := rfl
theorem bd54 (k : Nat) : BX6_pop (k + 2) = [] := rfl
theorem bd55 (k : Nat) : BX6_joined (k + 12) = [] := rfl
theorem bd56 (k : Nat) : BX6_holds (k + 23) = [] := rfl
theorem bd57 (k : Nat) : BX6_fact (k + 17) = [] := rfl
theorem bd58 (k : Nat) : BX7_init (k + 1) = [] := rfl
theorem bd59 (k : Nat) : BX7_begin (k + 3) = [] := rfl
theorem bd60 (k : Nat) : BX7_copy (k + 1) = [] := rfl
theorem bd61 (k : Nat) : BX7_shape (k + 1) = [] := rfl
theorem bd62 (k : Nat) : BX7_forgetWays (k + 3) = [] := rfl
theorem bd63 (k : Nat) : BX7_addWounds (k + 4) = [] := rfl
theorem bd64 (k : Nat) : BX7_takeWound (k + 4) = [] := rfl
theorem bd65 (k : Nat) : BX7_isOpen (k + 3) = [] := rfl
theorem bd66 (k : Nat) : BX7_openRoads (k + 5) = [] := rfl
theorem bd67 (k : Nat) : BX7_lengthOfOpen (k + 5) = [] := rfl
theorem bd68 (k : Nat) : BX7_leadsTo (k + 4) = [] := rfl
theorem bd69 (k : Nat) : BX7_otherEnd (k + 3) = [] := rfl
theorem bd70 (k : Nat) : BX7_openAt (k + 5) = [] := rfl
theorem bd71 (k : Nat) : BX7_between (k + 6) = [] := rfl
theorem bd72 (k : Nat) : BX7_fillRow (k + 11) = [] := rfl
theorem bd73 (k : Nat) : BX7_partOf (k + 3) = [] := rfl
theorem bd74 (k : Nat) : BX7_farthestFrom (k + 3) = [] := rfl
theorem bd75 (k : Nat) : BX7_nextTavern (k + 11) = [] := rfl
theorem bd76 (k : Nat) : BX7_lengthAround (k + 3) = [] := rfl
theorem bd77 (k : Nat) : BX7_isSpan (k + 3) = [] := rfl
theorem bd78 (k : Nat) : BX7_spansWith (k + 5) = [] := rfl
theorem bd79 (k : Nat) : BX7_isInNet (k + 1) = [] := rfl
theorem bd80 (k : Nat) : BX7_lengthOfNet (k + 1) = [] := rfl
theorem bd81 (k : Nat) : BX7_parts (k + 1) = [] := rfl
theorem bd82 (k : Nat) : BX7_substituteFor (k + 7) = [] := rfl
theorem bd83 (k : Nat) : BX7_layNet (k + 9) = [] := rfl
theorem bd84 (k : Nat) : BX7_joinGroups (k + 4) = [] := rfl
theorem bd85 (k : Nat) : BX7_sortOpen (k + 6) = [] := rfl
theorem bd86 (k : Nat) : BX8_init (k + 3) = [] := rfl
theorem bd87 (k : Nat) : BX8_has (k + 3) = [] := rfl
theorem bd88 (k : Nat) : BX8_kindOf (k + 3) = [] := rfl
theorem bd89 (k : Nat) : BX8_placeOf (k + 3) = [] := rfl
theorem bd90 (k : Nat) : BX8_valueOf (k + 3) = [] := rfl
theorem bd91 (k : Nat) : BX8_spellingOf (k + 3) = [] := rfl
theorem bd92 (k : Nat) : BX8_setValue (k + 2) = [] := rfl
theorem bd93 (k : Nat) : BX8_setKind (k + 2) = [] := rfl
theorem bd94 (k : Nat) : BX8_read (k + 10) = [] := rfl
theorem bd95 (k : Nat) : BX8_behindBlanks (k + 4) = [] := rfl
theorem bd96 (k : Nat) : BX8_endOfToken (k + 9) = [] := rfl
theorem bd97 (k : Nat) : BX8_kindBetween (k + 8) = [] := rfl
theorem bd98 (k : Nat) : BX8_kindSpelt (k + 4) = [] := rfl
theorem bd99 (k : Nat) : BX8_isSpelt (k + 4) = [] := rfl
theorem bd100 (k : Nat) : BX8_numberBetween (k + 3) = [] := rfl
theorem bd101 (k : Nat) : BX8_spellingBetween (k + 5) = [] := rfl
theorem bd102 (k : Nat) : BX8_isLetter (k + 3) = [] := rfl
theorem bd103 (k : Nat) : BX8_isDigit (k + 3) = [] := rfl
theorem bd104 (k : Nat) : BX9_init (k + 1) = [] := rfl
theorem bd105 (k : Nat) : BX9_feed (k + 2) = [] := rfl
theorem bd106 (k : Nat) : BX9_append (k + 3) = [] := rfl
theorem bd107 (k : Nat) : BX9_trim (k + 3) = [] := rfl
theorem bd108 (k : Nat) : BX9_teach (k + 3) = [] := rfl
theorem bd109 (k : Nat) : BX10_init (k + 1) = [] := rfl
theorem bd110 (k : Nat) : BX9_count (k + 3) = [] := rfl
theorem bd111 (k : Nat) : BX9_countOf (k + 8) = [] := rfl
theorem bd112 (k : Nat) : BX9_tavern (k + 3) = [] := rfl
theorem bd113 (k : Nat) : BX9_tavernFact (k + 5) = [] := rfl
theorem bd114 (k : Nat) : BX9_road (k + 3) = [] := rfl
theorem bd115 (k : Nat) : BX9_roadFact (k + 16) = [] := rfl
theorem bd116 (k : Nat) : BX9_rumour (k + 3) = [] := rfl
theorem bd117 (k : Nat) : BX9_rumourFact (k + 5) = [] := rfl
theorem bd118 (k : Nat) : BX9_since (k + 3) = [] := rfl
theorem bd119 (k : Nat) : BX9_isTavern (k + 3) = [] := rfl
theorem bd120 (k : Nat) : BX9_isRoad (k + 3) = [] := rfl
theorem bd121 (k : Nat) : BX9_isRumour (k + 3) = [] := rfl
theorem bd122 (k : Nat) : BX9_far (k + 3) = [] := rfl
theorem bd123 (k : Nat) : BX9_step (k + 3) = [] := rfl
theorem bd124 (k : Nat) : BX9_detour (k + 2) = [] := rfl
theorem bd125 (k : Nat) : BX9_replace (k + 2) = [] := rfl
theorem bd126 (k : Nat) : BX9_hurt (k + 4) = [] := rfl
theorem bd127 (k : Nat) : BX9_mend (k + 3) = [] := rfl
theorem bd128 (k : Nat) : BX9_tell (k + 4) = [] := rfl
theorem bd129 (k : Nat) : BX9_setMiles (k + 4) = [] := rfl
theorem bd130 (k : Nat) : BX9_pass (k + 3) = [] := rfl
theorem bd131 (k : Nat) : BX10_isOpen (k + 3) = [] := rfl
theorem bd132 (k : Nat) : BX9_foresee (k + 5) = [] := rfl
theorem bd133 (k : Nat) : BX10_length (k + 1) = [] := rfl
theorem bd134 (k : Nat) : BX10_ways (k + 17) = [] := rfl
theorem bd135 (k : Nat) : BX9_best (k + 6) = [] := rfl
theorem bd136 (k : Nat) : BX9_mean (k + 3) = [] := rfl
theorem bd137 (k : Nat) : BX9_digest (k + 7) = [] := rfl
theorem bd138 (k : Nat) : BX9_digestTaverns (k + 7) = [] := rfl
theorem bd139 (k : Nat) : BX9_digestRoads (k + 5) = [] := rfl
theorem bd140 (k : Nat) : BX10_far (k + 3) = [] := rfl
theorem bd141 (k : Nat) : BX10_parts (k + 7) = [] := rfl
theorem bd142 (k : Nat) : BX10_net (k + 19) = [] := rfl
theorem bd143 (k : Nat) : BX10_lengthOf (k + 5) = [] := rfl
theorem bd144 (k : Nat) : BX10_detour (k + 3) = [] := rfl
theorem bd145 (k : Nat) : BX10_isSpan (k + 3) = [] := rfl
theorem bd146 (k : Nat) : BX10_heard (k + 5) = [] := rfl
theorem bd147 (k : Nat) : BX10_all (k + 3) = [] := rfl
theorem bd148 (k : Nat) : BX10_sum (k + 9) = [] := rfl
theorem bd149 (k : Nat) : BX10_holds (k + 27) = [] := rfl
theorem bd150 (k : Nat) : BX10_carries (k + 9) = [] := rfl
theorem bd151 (k : Nat) : BX10_hears (k + 2) = [] := rfl
theorem bd152 (k : Nat) : BX10_pass (k + 28) = [] := rfl
theorem bd153 (k : Nat) : BX10_counts (k + 9) = [] := rfl
theorem bd154 (k : Nat) : BX10_isSame (k + 53) = [] := rfl
theorem bd155 (k : Nat) : BL_below (k + 1) = [] := rfl
theorem bd156 (k : Nat) : BL_cell (k + 3) = [] := rfl
theorem bd157 (k : Nat) : BL_taught (k + 7) = [] := rfl
theorem bd158 (k : Nat) : BL_sum (k + 9) = [] := rfl
theorem bd159 (k : Nat) : BL_when (k + 10) = [] := rfl
theorem bd160 (k : Nat) : BL_list (k + 22) = [] := rfl
theorem bd161 (k : Nat) : BL_act (k + 31) = [] := rfl
theorem bd162 (k : Nat) : BL_leads (k + 8) = [] := rfl
theorem bd163 (k : Nat) : BJ0_getBytes_840e7 (k + 3) = [] := rfl
theorem bd164 (k : Nat) : BJ0_init_81219 (k + 1) = [] := rfl
theorem bd165 (k : Nat) : BJ0_init_db425 (k + 4) = [] := rfl
theorem bd166 (k : Nat) : BJ15_checkIndex_7cf53 (k + 1) = [] := rfl
theorem bd167 (k : Nat) : BJ4_append_15ec4 (k + 1) = [] := rfl
theorem bd168 (k : Nat) : BJ4_append_bf812 (k + 1) = [] := rfl
theorem bd169 (k : Nat) : BJ4_init_da8c8 (k + 1) = [] := rfl
theorem bd170 (k : Nat) : BJ4_toString_0e30d (k + 1) = [] := rfl
theorem bd171 (k : Nat) : BJ5_append_c97b9 (k + 3) = [] := rfl
theorem bd172 (k : Nat) : BJ5_append_cf1ce (k + 2) = [] := rfl
theorem bd173 (k : Nat) : BJ5_ensureCapacityInternal_d00df (k + 2) = [] := rfl
theorem bd174 (k : Nat) : BJ5_getValue_6d5f1 (k + 1) = [] := rfl
theorem bd175 (k : Nat) : BJ5_inflateIfNeededFor_a7421 (k + 2) = [] := rfl
theorem bd176 (k : Nat) : BJ5_init_d00df (k + 3) = [] := rfl
theorem bd177 (k : Nat) : BJ5_isLatin1_aae02 (k + 3) = [] := rfl
theorem bd178 (k : Nat) : BJ5_length_8abf5 (k + 1) = [] := rfl
theorem bd179 (k : Nat) : BJ5_newCapacity_0f7a4 (k + 2) = [] := rfl
theorem bd180 (k : Nat) : BJ5_putStringAt_47b60 (k + 1) = [] := rfl
theorem bd181 (k : Nat) : BJ6_getChars_ba4f3 (k + 7) = [] := rfl
theorem bd182 (k : Nat) : BJ6_stringSize_0f7a4 (k + 5) = [] := rfl
theorem bd183 (k : Nat) : BJ7_checkLength_df160 (k + 2) = [] := rfl
theorem bd184 (k : Nat) : BJ7_copyOfRangeByte_39247 (k + 1) = [] := rfl
theorem bd185 (k : Nat) : BJ7_copyOfRange_39247 (k + 3) = [] := rfl
theorem bd186 (k : Nat) : BJ7_copyOf_1904c (k + 1) = [] := rfl
theorem bd187 (k : Nat) : BJ7_copyOf_6403c (k + 3) = [] := rfl
theorem bd188 (k : Nat) : BJ7_copyOf_9075b (k + 2) = [] := rfl
theorem bd189 (k : Nat) : BJ8_newLength_cabcc (k + 2) = [] := rfl
theorem bd190 (k : Nat) : BJx35411_checkForComodification_da8c8 (k + 2) = [] := rfl
theorem bd191 (k : Nat) : BJx35411_hasNext_aae02 (k + 3) = [] := rfl
theorem bd192 (k : Nat) : BJx35411_init_45d68 (k + 1) = [] := rfl
theorem bd193 (k : Nat) : BJx35411_next_0502b (k + 3) = [] := rfl
theorem bd194 (k : Nat) : BJx4a65c_add_72be8 (k + 2) = [] := rfl
theorem bd195 (k : Nat) : BJx4a65c_add_9ea2d (k + 1) = [] := rfl
theorem bd196 (k : Nat) : BJx4a65c_elementData_915e3 (k + 1) = [] := rfl
theorem bd197 (k : Nat) : BJx4a65c_fastRemove_b59b0 (k + 2) = [] := rfl
theorem bd198 (k : Nat) : BJx4a65c_get_915e3 (k + 1) = [] := rfl
theorem bd199 (k : Nat) : BJx4a65c_grow_92f84 (k + 3) = [] := rfl
theorem bd200 (k : Nat) : BJx4a65c_grow_d5877 (k + 1) = [] := rfl
theorem bd201 (k : Nat) : BJx4a65c_init_da8c8 (k + 1) = [] := rfl
theorem bd202 (k : Nat) : BJx4a65c_iterator_32c93 (k + 1) = [] := rfl
theorem bd203 (k : Nat) : BJx4a65c_remove_915e3 (k + 1) = [] := rfl
theorem bd204 (k : Nat) : BJx4a65c_size_8abf5 (k + 1) = [] := rfl
theorem bd205 (k : Nat) : BJxa1e45_init_da8c8 (k + 1) = [] := rfl
theorem bd206 (k : Nat) : BJxc12de_init_da8c8 (k + 1) = [] := rfl
theorem bd207 (k : Nat) : BJ4_length_8abf5 (k + 1) = [] := rfl
theorem bd208 (k : Nat) : BJ0_coder_7d493 (k + 3) = [] := rfl
theorem bd209 (k : Nat) : BJ0_coder_7d493 (k + 3) = [] := rfl
theorem bd210 (k : Nat) : BJ0_coder_7d493 (k + 3) = [] := rfl
theorem bd211 (k : Nat) : BJ0_coder_7d493 (k + 3) = [] := rfl
theorem bd212 (k : Nat) : BJ0_coder_7d493 (k + 3) = [] := rfl
theorem bd213 (k : Nat) : BJ0_coder_7d493 (k + 3) = [] := rfl
theorem bd214 (k : Nat) : BJ0_coder_7d493 (k + 3) = [] := rfl
theorem bd215 (k : Nat) : BJ0_coder_7d493 (k + 3) = [] := rfl
theorem bd216 (k : Nat) : BJ0_coder_7d493 (k + 3) = [] := rfl
theorem bd217 (k : Nat) : BJ0_coder_7d493 (k + 3) = [] := rfl
theorem bd218 (k : Nat) : BJ0_coder_7d493 (k + 3) = [] := rfl
theorem bd219 (k : Nat) : BJ0_coder_7d493 (k + 3) = [] := rfl
theorem bd220 (k : Nat) : BJ0_coder_7d493 (k + 3) = [] := rfl
theorem bd221 (k : Nat) : BJ0_coder_7d493 (k + 3) = [] := rfl
theorem bd222 (k : Nat) : BJ0_coder_7d493 (k + 3) = [] := rfl
theorem bd223 (k : Nat) : BJ0_coder_7d493 (k + 3) = [] := rfl
theorem bd224 (k : Nat) : BJ0_coder_7d493 (k + 3) = [] := rfl
theorem bd225 (k : Nat) : BJ0_coder_7d493 (k + 3) = [] := rfl
theorem bd226 (k : Nat) : BJ0_coder_7d493 (k + 3) = [] := rfl
theorem bd227 (k : Nat) : BJ0_coder_7d493 (k + 3) = [] := rfl
theorem bd228 (k : Nat) : BJ0_coder_7d493 (k + 3) = [] := rfl
theorem bd229 (k : Nat) : BJ0_coder_7d493 (k + 3) = [] := rfl
theorem bd230 (k : Nat) : BJ0_coder_7d493 (k + 3) = [] := rfl
theorem bd231 (k : Nat) : BJ0_coder_7d493 (k + 3) = [] := rfl
theorem bd232 (k : Nat) : BJ0_coder_7d493 (k + 3) = [] := rfl
theorem bd233 (k : Nat) : BJ0_coder_7d493 (k + 3) = [] := rfl
theorem bd234 (k : Nat) : BJ0_coder_7d493 (k + 3) = [] := rfl
theorem bd235 (k : Nat) : BJ0_coder_7d493 (k + 3) = [] := rfl
theorem bd236 (k : Nat) : BJ0_coder_7d493 (k + 3) = [] := rfl
theorem bd237 (k : Nat) : BJ0_coder_7d493 (k + 3) = [] := rfl
theorem bd238 (k : Nat) : BJ0_coder_7d493 (k + 3) = [] := rfl
theorem bd239 (k : Nat) : BJ0_coder_7d493 (k + 3) = [] := rfl
theorem bd240 (k : Nat) : BJ0_coder_7d493 (k + 3) = [] := rfl
theorem bd241 (k : Nat) : BJ0_coder_7d493 (k + 3) = [] := rfl
theorem bd242 (k : Nat) : BJ0_coder_7d493 (k + 3) = [] := rfl
theorem bd243 (k : Nat) : BJ0_coder_7d493 (k + 3) = [] := rfl
theorem bd244 (k : Nat) : BJ0_coder_7d493 (k + 3) = [] := rfl
theorem bd245 (k : Nat) : BJ0_coder_7d493 (k + 3) = [] := rfl
theorem bd246 (k : Nat) : BJ0_coder_7d493 (k + 3) = [] := rfl
theorem bd247 (k : Nat) : BJ0_coder_7d493 (k + 3) = [] := rfl
theorem bd248 (k : Nat) : BJ0_coder_7d493 (k + 3) = [] := rfl
theorem bd249 (k : Nat) : BJ0_coder_7d493 (k + 3) = [] := rfl
theorem bd250 (k : Nat) : BJ0_coder_7d493 (k + 3) = [] := rfl
theorem bd251 (k : Nat) : BJ0_coder_7d493 (k + 3) = [] := rfl
theorem bd252 (k : Nat) : BJ0_coder_7d493 (k + 3) = [] := rfl
theorem bd253 (k : Nat) : BJ0_coder_7d493 (k + 3) = [] := rfl
theorem bd254 (k : Nat) : BJ0_coder_7d493 (k + 3) = [] := rfl
theorem bd255 (k : Nat) : BJ0_coder_7d493 (k + 3) = [] := rfl
theorem bd256 (k : Nat) : BJ0_coder_7d493 (k + 3) = [] := rfl
theorem bd257 (k : Nat) : BJ0_coder_7d493 (k + 3) = [] := rfl
theorem bd258 (k : Nat) : BJ0_coder_7d493 (k + 3) = [] := rfl
theorem bd259 (k : Nat) : BJ0_coder_7d493 (k + 3) = [] := rfl
theorem bd260 (k : Nat) : BJ0_coder_7d493 (k + 3) = [] := rfl
theorem bd261 (k : Nat) : BJ0_coder_7d493 (k + 3) = [] := rfl
theorem bd262 (k : Nat) : BJ0_coder_7d493 (k + 3) = [] := rfl
theorem bd263 (k : Nat) : BJ0_coder_7d493 (k + 3) = [] := rfl
theorem bd264 (k : Nat) : BJ0_coder_7d493 (k + 3) = [] := rfl
theorem bd265 (k : Nat) : BJ0_coder_7d493 (k + 3) = [] := rfl
theorem bd266 (k : Nat) : BJ0_coder_7d493 (k + 3) = [] := rfl
theorem bd267 (k : Nat) : BJ0_coder_7d493 (k + 3) = [] := rfl
theorem bd268 (k : Nat) : BJ0_coder_7d493 (k + 3) = [] := rfl
theorem bd269 (k : Nat) : BL_law (k + 84) = [] := rfl
theorem bd270 (k : Nat) : BJ0_length_8abf5 (k + 1) = [] := rfl
theorem bd271 (k : Nat) : BJ0_charAt_5068e (k + 2) = [] := rfl
theorem bd272 (k : Nat) : BJ0_coder_7d493 (k + 3) = [] := rfl
theorem bd273 (k : Nat) : BJ0_coder_7d493 (k + 3) = [] := rfl
theorem bd274 (k : Nat) : BJ0_coder_7d493 (k + 3) = [] := rfl
theorem bd275 (k : Nat) : BJ0_isLatin1_aae02 (k + 3) = [] := rfl
theorem bd276 (k : Nat) : BJ0_checkIndex_df160 (k + 1) = [] := rfl
theorem bd277 (k : Nat) : BJ1_charAt_3b067 (k + 1) = [] := rfl
theorem bd278 (k : Nat) : BJ0_coder_7d493 (k + 3) = [] := rfl
theorem bd279 (k : Nat) : BJ0_coder_7d493 (k + 3) = [] := rfl
theorem bd280 (k : Nat) : BJ0_coder_7d493 (k + 3) = [] := rfl
theorem bd281 (k : Nat) : BJ3_checkIndex_8e157 (k + 3) = [] := rfl
theorem bd282 (k : Nat) : BJ7_fill_53178 (k + 3) = [] := rfl
theorem bd283 (k : Nat) : BJx29ce0_ordinal_8abf5 (k + 1) = [] := rfl
theorem bd284 (k : Nat) : BX3_has (k + 3) = [] := rfl
theorem bd285 (k : Nat) : BX7_has (k + 3) = [] := rfl
theorem bd286 (k : Nat) : BX7_lengthOf (k + 3) = [] := rfl
theorem bd287 (k : Nat) : BX7_woundsOf (k + 3) = [] := rfl
def blkOK (m : Nat) : Prop := ∀ k, okF (mInf m).2.2.1 (decide ((mInf m).1.name = "<init>")) (mInf m).2.2.2.2.1 (mInf m).2.1 (bp m).2.1 ((bp m).2.1 k) ((bp m).1 k) = true
theorem lawB : ∀ k, k < 84 → okF 13 false (some .boolean) code PL_law (PL_law k) (BL_law k) = true := ltA_s (ltA_s (ltA_s (ltA_s (ltA_s (ltA_s (ltA_s (ltA_s (ltA_s (ltA_s (ltA_s (ltA_s (ltA_s (ltA_s (ltA_s (ltA_s (ltA_s (ltA_s (ltA_s (ltA_s (ltA_s (ltA_s (ltA_s (ltA_s (ltA_s (ltA_s (ltA_s (ltA_s (ltA_s (ltA_s (ltA_s (ltA_s (ltA_s (ltA_s (ltA_s (ltA_s (ltA_s (ltA_s (ltA_s (ltA_s (ltA_s (ltA_s (ltA_s (ltA_s (ltA_s (ltA_s (ltA_s (ltA_s (ltA_s (ltA_s (ltA_s (ltA_s (ltA_s (ltA_s (ltA_s (ltA_s (ltA_s (ltA_s (ltA_s (ltA_s (ltA_s (ltA_s (ltA_s (ltA_s (ltA_s (ltA_s (ltA_s (ltA_s (ltA_s (ltA_s (ltA_s (ltA_s (ltA_s (ltA_s (ltA_s (ltA_s (ltA_s (ltA_s (ltA_s (ltA_s (ltA_s (ltA_s (ltA_s (ltA_s (ltA_z) okL0) okL1) okL2) okL3) okL4) okL5) okL6) okL7) okL8) okL9) okL10) okL11) okL12) okL13) okL14) okL15) okL16) okL17) okL18) okL19) okL20) okL21) okL22) okL23) okL24) okL25) okL26) okL27) okL28) okL29) okL30) okL31) okL32) okL33) okL34) okL35) okL36) okL37) okL38) okL39) okL40) okL41) okL42) okL43) okL44) okL45) okL46) okL47) okL48) okL49) okL50) okL51) okL52) okL53) okL54) okL55) okL56) okL57) okL58) okL59) okL60) okL61) okL62) okL63) okL64) okL65) okL66) okL67) okL68) okL69) okL70) okL71) okL72) okL73) okL74) okL75) okL76) okL77) okL78) okL79) okL80) okL81) okL82) okL83
theorem ba269 : blkOK 269 := by
  intro k
  have e1 : (mInf 269).2.2.1 = 13 := rfl
  have e2 : decide ((mInf 269).1.name = "<init>") = false := by decide
  have e3 : (mInf 269).2.2.2.2.1 = some .boolean := rfl
  have e4 : (mInf 269).2.1 = code := rfl
  have e5 : (bp 269).2.1 = PL_law := rfl
  have e6 : (bp 269).1 = BL_law := rfl
  rw [e1, e2, e3, e4, e5, e6]
  by_cases hk : k < 84
  · exact lawB k hk
  · obtain ⟨j, rfl⟩ : ∃ j, k = j + 84 := ⟨k - 84, by omega⟩
    rw [bd269 j]
    unfold okF
    rfl
theorem ba0 : blkOK 0 := okM_at ok0 (n := 1) rfl bd0
theorem ba1 : blkOK 1 := okM_at ok1 (n := 7) rfl bd1
theorem ba2 : blkOK 2 := okM_at ok2 (n := 6) rfl bd2
theorem ba3 : blkOK 3 := okM_at ok3 (n := 11) rfl bd3
theorem ba4 : blkOK 4 := okM_at ok4 (n := 11) rfl bd4
theorem ba5 : blkOK 5 := okM_at ok5 (n := 5) rfl bd5
theorem ba6 : blkOK 6 := okM_at ok6 (n := 19) rfl bd6
theorem ba7 : blkOK 7 := okM_at ok7 (n := 5) rfl bd7
theorem ba8 : blkOK 8 := okM_at ok8 (n := 17) rfl bd8
theorem ba9 : blkOK 9 := okM_at ok9 (n := 19) rfl bd9
theorem ba10 : blkOK 10 := okM_at ok10 (n := 1) rfl bd10
theorem ba11 : blkOK 11 := okM_at ok11 (n := 3) rfl bd11
theorem ba12 : blkOK 12 := okM_at ok12 (n := 3) rfl bd12
theorem ba13 : blkOK 13 := okM_at ok13 (n := 1) rfl bd13
theorem ba14 : blkOK 14 := okM_at ok14 (n := 3) rfl bd14
theorem ba15 : blkOK 15 := okM_at ok15 (n := 4) rfl bd15
theorem ba16 : blkOK 16 := okM_at ok16 (n := 7) rfl bd16
theorem ba17 : blkOK 17 := okM_at ok17 (n := 5) rfl bd17
theorem ba18 : blkOK 18 := okM_at ok18 (n := 3) rfl bd18
theorem ba19 : blkOK 19 := okM_at ok19 (n := 5) rfl bd19
theorem ba20 : blkOK 20 := okM_at ok20 (n := 5) rfl bd20
theorem ba21 : blkOK 21 := okM_at ok21 (n := 10) rfl bd21
theorem ba22 : blkOK 22 := okM_at ok22 (n := 3) rfl bd22
theorem ba23 : blkOK 23 := okM_at ok23 (n := 8) rfl bd23
theorem ba24 : blkOK 24 := okM_at ok24 (n := 7) rfl bd24
theorem ba25 : blkOK 25 := okM_at ok25 (n := 4) rfl bd25
theorem ba26 : blkOK 26 := okM_at ok26 (n := 1) rfl bd26
theorem ba27 : blkOK 27 := okM_at ok27 (n := 4) rfl bd27
theorem ba28 : blkOK 28 := okM_at ok28 (n := 5) rfl bd28
theorem ba29 : blkOK 29 := okM_at ok29 (n := 6) rfl bd29
theorem ba30 : blkOK 30 := okM_at ok30 (n := 4) rfl bd30
theorem ba31 : blkOK 31 := okM_at ok31 (n := 1) rfl bd31
theorem ba32 : blkOK 32 := okM_at ok32 (n := 3) rfl bd32
theorem ba33 : blkOK 33 := okM_at ok33 (n := 11) rfl bd33
theorem ba34 : blkOK 34 := okM_at ok34 (n := 3) rfl bd34
theorem ba35 : blkOK 35 := okM_at ok35 (n := 2) rfl bd35
theorem ba36 : blkOK 36 := okM_at ok36 (n := 2) rfl bd36
theorem ba37 : blkOK 37 := okM_at ok37 (n := 2) rfl bd37
theorem ba38 : blkOK 38 := okM_at ok38 (n := 4) rfl bd38
theorem ba39 : blkOK 39 := okM_at ok39 (n := 2) rfl bd39
theorem ba40 : blkOK 40 := okM_at ok40 (n := 4) rfl bd40
theorem ba41 : blkOK 41 := okM_at ok41 (n := 3) rfl bd41
theorem ba42 : blkOK 42 := okM_at ok42 (n := 1) rfl bd42
theorem ba43 : blkOK 43 := okM_at ok43 (n := 1) rfl bd43
theorem ba44 : blkOK 44 := okM_at ok44 (n := 2) rfl bd44
theorem ba45 : blkOK 45 := okM_at ok45 (n := 3) rfl bd45
theorem ba46 : blkOK 46 := okM_at ok46 (n := 2) rfl bd46
theorem ba47 : blkOK 47 := okM_at ok47 (n := 2) rfl bd47
theorem ba48 : blkOK 48 := okM_at ok48 (n := 2) rfl bd48
theorem ba49 : blkOK 49 := okM_at ok49 (n := 1) rfl bd49
theorem ba50 : blkOK 50 := okM_at ok50 (n := 1) rfl bd50
theorem ba51 : blkOK 51 := okM_at ok51 (n := 1) rfl bd51
theorem ba52 : blkOK 52 := okM_at ok52 (n := 8) rfl bd52
theorem ba53 : blkOK 53 := okM_at ok53 (n := 2) rfl bd53
theorem ba54 : blkOK 54 := okM_at ok54 (n := 2) rfl bd54
theorem ba55 : blkOK 55 := okM_at ok55 (n := 12) rfl bd55
theorem ba56 : blkOK 56 := okM_at ok56 (n := 23) rfl bd56
theorem ba57 : blkOK 57 := okM_at ok57 (n := 17) rfl bd57
theorem ba58 : blkOK 58 := okM_at ok58 (n := 1) rfl bd58
theorem ba59 : blkOK 59 := okM_at ok59 (n := 3) rfl bd59
theorem ba60 : blkOK 60 := okM_at ok60 (n := 1) rfl bd60
theorem ba61 : blkOK 61 := okM_at ok61 (n := 1) rfl bd61
theorem ba62 : blkOK 62 := okM_at ok62 (n := 3) rfl bd62
theorem ba63 : blkOK 63 := okM_at ok63 (n := 4) rfl bd63
theorem ba64 : blkOK 64 := okM_at ok64 (n := 4) rfl bd64
theorem ba65 : blkOK 65 := okM_at ok65 (n := 3) rfl bd65
theorem ba66 : blkOK 66 := okM_at ok66 (n := 5) rfl bd66
theorem ba67 : blkOK 67 := okM_at ok67 (n := 5) rfl bd67
theorem ba68 : blkOK 68 := okM_at ok68 (n := 4) rfl bd68
theorem ba69 : blkOK 69 := okM_at ok69 (n := 3) rfl bd69
theorem ba70 : blkOK 70 := okM_at ok70 (n := 5) rfl bd70
theorem ba71 : blkOK 71 := okM_at ok71 (n := 6) rfl bd71
theorem ba72 : blkOK 72 := okM_at ok72 (n := 11) rfl bd72
theorem ba73 : blkOK 73 := okM_at ok73 (n := 3) rfl bd73
theorem ba74 : blkOK 74 := okM_at ok74 (n := 3) rfl bd74
theorem ba75 : blkOK 75 := okM_at ok75 (n := 11) rfl bd75
theorem ba76 : blkOK 76 := okM_at ok76 (n := 3) rfl bd76
theorem ba77 : blkOK 77 := okM_at ok77 (n := 3) rfl bd77
theorem ba78 : blkOK 78 := okM_at ok78 (n := 5) rfl bd78
theorem ba79 : blkOK 79 := okM_at ok79 (n := 1) rfl bd79
theorem ba80 : blkOK 80 := okM_at ok80 (n := 1) rfl bd80
theorem ba81 : blkOK 81 := okM_at ok81 (n := 1) rfl bd81
theorem ba82 : blkOK 82 := okM_at ok82 (n := 7) rfl bd82
theorem ba83 : blkOK 83 := okM_at ok83 (n := 9) rfl bd83
theorem ba84 : blkOK 84 := okM_at ok84 (n := 4) rfl bd84
theorem ba85 : blkOK 85 := okM_at ok85 (n := 6) rfl bd85
theorem ba86 : blkOK 86 := okM_at ok86 (n := 3) rfl bd86
theorem ba87 : blkOK 87 := okM_at ok87 (n := 3) rfl bd87
theorem ba88 : blkOK 88 := okM_at ok88 (n := 3) rfl bd88
theorem ba89 : blkOK 89 := okM_at ok89 (n := 3) rfl bd89
theorem ba90 : blkOK 90 := okM_at ok90 (n := 3) rfl bd90
theorem ba91 : blkOK 91 := okM_at ok91 (n := 3) rfl bd91
theorem ba92 : blkOK 92 := okM_at ok92 (n := 2) rfl bd92
theorem ba93 : blkOK 93 := okM_at ok93 (n := 2) rfl bd93
theorem ba94 : blkOK 94 := okM_at ok94 (n := 10) rfl bd94
theorem ba95 : blkOK 95 := okM_at ok95 (n := 4) rfl bd95
theorem ba96 : blkOK 96 := okM_at ok96 (n := 9) rfl bd96
theorem ba97 : blkOK 97 := okM_at ok97 (n := 8) rfl bd97
theorem ba98 : blkOK 98 := okM_at ok98 (n := 4) rfl bd98
theorem ba99 : blkOK 99 := okM_at ok99 (n := 4) rfl bd99
theorem ba100 : blkOK 100 := okM_at ok100 (n := 3) rfl bd100
theorem ba101 : blkOK 101 := okM_at ok101 (n := 5) rfl bd101
theorem ba102 : blkOK 102 := okM_at ok102 (n := 3) rfl bd102
theorem ba103 : blkOK 103 := okM_at ok103 (n := 3) rfl bd103
theorem ba104 : blkOK 104 := okM_at ok104 (n := 1) rfl bd104
theorem ba105 : blkOK 105 := okM_at ok105 (n := 2) rfl bd105
theorem ba106 : blkOK 106 := okM_at ok106 (n := 3) rfl bd106
theorem ba107 : blkOK 107 := okM_at ok107 (n := 3) rfl bd107
theorem ba108 : blkOK 108 := okM_at ok108 (n := 3) rfl bd108
theorem ba109 : blkOK 109 := okM_at ok109 (n := 1) rfl bd109
theorem ba110 : blkOK 110 := okM_at ok110 (n := 3) rfl bd110
theorem ba111 : blkOK 111 := okM_at ok111 (n := 8) rfl bd111
theorem ba112 : blkOK 112 := okM_at ok112 (n := 3) rfl bd112
theorem ba113 : blkOK 113 := okM_at ok113 (n := 5) rfl bd113
theorem ba114 : blkOK 114 := okM_at ok114 (n := 3) rfl bd114
theorem ba115 : blkOK 115 := okM_at ok115 (n := 16) rfl bd115
theorem ba116 : blkOK 116 := okM_at ok116 (n := 3) rfl bd116
theorem ba117 : blkOK 117 := okM_at ok117 (n := 5) rfl bd117
theorem ba118 : blkOK 118 := okM_at ok118 (n := 3) rfl bd118
theorem ba119 : blkOK 119 := okM_at ok119 (n := 3) rfl bd119
theorem ba120 : blkOK 120 := okM_at ok120 (n := 3) rfl bd120
theorem ba121 : blkOK 121 := okM_at ok121 (n := 3) rfl bd121
theorem ba122 : blkOK 122 := okM_at ok122 (n := 3) rfl bd122
theorem ba123 : blkOK 123 := okM_at ok123 (n := 3) rfl bd123
theorem ba124 : blkOK 124 := okM_at ok124 (n := 2) rfl bd124
theorem ba125 : blkOK 125 := okM_at ok125 (n := 2) rfl bd125
theorem ba126 : blkOK 126 := okM_at ok126 (n := 4) rfl bd126
theorem ba127 : blkOK 127 := okM_at ok127 (n := 3) rfl bd127
theorem ba128 : blkOK 128 := okM_at ok128 (n := 4) rfl bd128
theorem ba129 : blkOK 129 := okM_at ok129 (n := 4) rfl bd129
theorem ba130 : blkOK 130 := okM_at ok130 (n := 3) rfl bd130
theorem ba131 : blkOK 131 := okM_at ok131 (n := 3) rfl bd131
theorem ba132 : blkOK 132 := okM_at ok132 (n := 5) rfl bd132
theorem ba133 : blkOK 133 := okM_at ok133 (n := 1) rfl bd133
theorem ba134 : blkOK 134 := okM_at ok134 (n := 17) rfl bd134
theorem ba135 : blkOK 135 := okM_at ok135 (n := 6) rfl bd135
theorem ba136 : blkOK 136 := okM_at ok136 (n := 3) rfl bd136
theorem ba137 : blkOK 137 := okM_at ok137 (n := 7) rfl bd137
theorem ba138 : blkOK 138 := okM_at ok138 (n := 7) rfl bd138
theorem ba139 : blkOK 139 := okM_at ok139 (n := 5) rfl bd139
theorem ba140 : blkOK 140 := okM_at ok140 (n := 3) rfl bd140
theorem ba141 : blkOK 141 := okM_at ok141 (n := 7) rfl bd141
theorem ba142 : blkOK 142 := okM_at ok142 (n := 19) rfl bd142
theorem ba143 : blkOK 143 := okM_at ok143 (n := 5) rfl bd143
theorem ba144 : blkOK 144 := okM_at ok144 (n := 3) rfl bd144
theorem ba145 : blkOK 145 := okM_at ok145 (n := 3) rfl bd145
theorem ba146 : blkOK 146 := okM_at ok146 (n := 5) rfl bd146
theorem ba147 : blkOK 147 := okM_at ok147 (n := 3) rfl bd147
theorem ba148 : blkOK 148 := okM_at ok148 (n := 9) rfl bd148
theorem ba149 : blkOK 149 := okM_at ok149 (n := 27) rfl bd149
theorem ba150 : blkOK 150 := okM_at ok150 (n := 9) rfl bd150
theorem ba151 : blkOK 151 := okM_at ok151 (n := 2) rfl bd151
theorem ba152 : blkOK 152 := okM_at ok152 (n := 28) rfl bd152
theorem ba153 : blkOK 153 := okM_at ok153 (n := 9) rfl bd153
theorem ba154 : blkOK 154 := okM_at ok154 (n := 53) rfl bd154
theorem ba155 : blkOK 155 := okM_at ok155 (n := 1) rfl bd155
theorem ba156 : blkOK 156 := okM_at ok156 (n := 3) rfl bd156
theorem ba157 : blkOK 157 := okM_at ok157 (n := 7) rfl bd157
theorem ba158 : blkOK 158 := okM_at ok158 (n := 9) rfl bd158
theorem ba159 : blkOK 159 := okM_at ok159 (n := 10) rfl bd159
theorem ba160 : blkOK 160 := okM_at ok160 (n := 22) rfl bd160
theorem ba161 : blkOK 161 := okM_at ok161 (n := 31) rfl bd161
theorem ba162 : blkOK 162 := okM_at ok162 (n := 8) rfl bd162
theorem ba163 : blkOK 163 := okM_at ok163 (n := 3) rfl bd163
theorem ba164 : blkOK 164 := okM_at ok164 (n := 1) rfl bd164
theorem ba165 : blkOK 165 := okM_at ok165 (n := 4) rfl bd165
theorem ba166 : blkOK 166 := okM_at ok166 (n := 1) rfl bd166
theorem ba167 : blkOK 167 := okM_at ok167 (n := 1) rfl bd167
theorem ba168 : blkOK 168 := okM_at ok168 (n := 1) rfl bd168
theorem ba169 : blkOK 169 := okM_at ok169 (n := 1) rfl bd169
theorem ba170 : blkOK 170 := okM_at ok170 (n := 1) rfl bd170
theorem ba171 : blkOK 171 := okM_at ok171 (n := 3) rfl bd171
theorem ba172 : blkOK 172 := okM_at ok172 (n := 2) rfl bd172
theorem ba173 : blkOK 173 := okM_at ok173 (n := 2) rfl bd173
theorem ba174 : blkOK 174 := okM_at ok174 (n := 1) rfl bd174
theorem ba175 : blkOK 175 := okM_at ok175 (n := 2) rfl bd175
theorem ba176 : blkOK 176 := okM_at ok176 (n := 3) rfl bd176
theorem ba177 : blkOK 177 := okM_at ok177 (n := 3) rfl bd177
theorem ba178 : blkOK 178 := okM_at ok178 (n := 1) rfl bd178
theorem ba179 : blkOK 179 := okM_at ok179 (n := 2) rfl bd179
theorem ba180 : blkOK 180 := okM_at ok180 (n := 1) rfl bd180
theorem ba181 : blkOK 181 := okM_at ok181 (n := 7) rfl bd181
theorem ba182 : blkOK 182 := okM_at ok182 (n := 5) rfl bd182
theorem ba183 : blkOK 183 := okM_at ok183 (n := 2) rfl bd183
theorem ba184 : blkOK 184 := okM_at ok184 (n := 1) rfl bd184
theorem ba185 : blkOK 185 := okM_at ok185 (n := 3) rfl bd185
theorem ba186 : blkOK 186 := okM_at ok186 (n := 1) rfl bd186
theorem ba187 : blkOK 187 := okM_at ok187 (n := 3) rfl bd187
theorem ba188 : blkOK 188 := okM_at ok188 (n := 2) rfl bd188
theorem ba189 : blkOK 189 := okM_at ok189 (n := 2) rfl bd189
theorem ba190 : blkOK 190 := okM_at ok190 (n := 2) rfl bd190
theorem ba191 : blkOK 191 := okM_at ok191 (n := 3) rfl bd191
theorem ba192 : blkOK 192 := okM_at ok192 (n := 1) rfl bd192
theorem ba193 : blkOK 193 := okM_at ok193 (n := 3) rfl bd193
theorem ba194 : blkOK 194 := okM_at ok194 (n := 2) rfl bd194
theorem ba195 : blkOK 195 := okM_at ok195 (n := 1) rfl bd195
theorem ba196 : blkOK 196 := okM_at ok196 (n := 1) rfl bd196
theorem ba197 : blkOK 197 := okM_at ok197 (n := 2) rfl bd197
theorem ba198 : blkOK 198 := okM_at ok198 (n := 1) rfl bd198
theorem ba199 : blkOK 199 := okM_at ok199 (n := 3) rfl bd199
theorem ba200 : blkOK 200 := okM_at ok200 (n := 1) rfl bd200
theorem ba201 : blkOK 201 := okM_at ok201 (n := 1) rfl bd201
theorem ba202 : blkOK 202 := okM_at ok202 (n := 1) rfl bd202
theorem ba203 : blkOK 203 := okM_at ok203 (n := 1) rfl bd203
theorem ba204 : blkOK 204 := okM_at ok204 (n := 1) rfl bd204
theorem ba205 : blkOK 205 := okM_at ok205 (n := 1) rfl bd205
theorem ba206 : blkOK 206 := okM_at ok206 (n := 1) rfl bd206
theorem ba207 : blkOK 207 := okM_at ok207 (n := 1) rfl bd207
theorem ba208 : blkOK 208 := okM_at ok208 (n := 3) rfl bd208
theorem ba209 : blkOK 209 := okM_at ok209 (n := 3) rfl bd209
theorem ba210 : blkOK 210 := okM_at ok210 (n := 3) rfl bd210
theorem ba211 : blkOK 211 := okM_at ok211 (n := 3) rfl bd211
theorem ba212 : blkOK 212 := okM_at ok212 (n := 3) rfl bd212
theorem ba213 : blkOK 213 := okM_at ok213 (n := 3) rfl bd213
theorem ba214 : blkOK 214 := okM_at ok214 (n := 3) rfl bd214
theorem ba215 : blkOK 215 := okM_at ok215 (n := 3) rfl bd215
theorem ba216 : blkOK 216 := okM_at ok216 (n := 3) rfl bd216
theorem ba217 : blkOK 217 := okM_at ok217 (n := 3) rfl bd217
theorem ba218 : blkOK 218 := okM_at ok218 (n := 3) rfl bd218
theorem ba219 : blkOK 219 := okM_at ok219 (n := 3) rfl bd219
theorem ba220 : blkOK 220 := okM_at ok220 (n := 3) rfl bd220
theorem ba221 : blkOK 221 := okM_at ok221 (n := 3) rfl bd221
theorem ba222 : blkOK 222 := okM_at ok222 (n := 3) rfl bd222
theorem ba223 : blkOK 223 := okM_at ok223 (n := 3) rfl bd223
theorem ba224 : blkOK 224 := okM_at ok224 (n := 3) rfl bd224
theorem ba225 : blkOK 225 := okM_at ok225 (n := 3) rfl bd225
theorem ba226 : blkOK 226 := okM_at ok226 (n := 3) rfl bd226
theorem ba227 : blkOK 227 := okM_at ok227 (n := 3) rfl bd227
theorem ba228 : blkOK 228 := okM_at ok228 (n := 3) rfl bd228
theorem ba229 : blkOK 229 := okM_at ok229 (n := 3) rfl bd229
theorem ba230 : blkOK 230 := okM_at ok230 (n := 3) rfl bd230
theorem ba231 : blkOK 231 := okM_at ok231 (n := 3) rfl bd231
theorem ba232 : blkOK 232 := okM_at ok232 (n := 3) rfl bd232
theorem ba233 : blkOK 233 := okM_at ok233 (n := 3) rfl bd233
theorem ba234 : blkOK 234 := okM_at ok234 (n := 3) rfl bd234
theorem ba235 : blkOK 235 := okM_at ok235 (n := 3) rfl bd235
theorem ba236 : blkOK 236 := okM_at ok236 (n := 3) rfl bd236
theorem ba237 : blkOK 237 := okM_at ok237 (n := 3) rfl bd237
theorem ba238 : blkOK 238 := okM_at ok238 (n := 3) rfl bd238
theorem ba239 : blkOK 239 := okM_at ok239 (n := 3) rfl bd239
theorem ba240 : blkOK 240 := okM_at ok240 (n := 3) rfl bd240
theorem ba241 : blkOK 241 := okM_at ok241 (n := 3) rfl bd241
theorem ba242 : blkOK 242 := okM_at ok242 (n := 3) rfl bd242
theorem ba243 : blkOK 243 := okM_at ok243 (n := 3) rfl bd243
theorem ba244 : blkOK 244 := okM_at ok244 (n := 3) rfl bd244
theorem ba245 : blkOK 245 := okM_at ok245 (n := 3) rfl bd245
theorem ba246 : blkOK 246 := okM_at ok246 (n := 3) rfl bd246
theorem ba247 : blkOK 247 := okM_at ok247 (n := 3) rfl bd247
theorem ba248 : blkOK 248 := okM_at ok248 (n := 3) rfl bd248
theorem ba249 : blkOK 249 := okM_at ok249 (n := 3) rfl bd249
theorem ba250 : blkOK 250 := okM_at ok250 (n := 3) rfl bd250
theorem ba251 : blkOK 251 := okM_at ok251 (n := 3) rfl bd251
theorem ba252 : blkOK 252 := okM_at ok252 (n := 3) rfl bd252
theorem ba253 : blkOK 253 := okM_at ok253 (n := 3) rfl bd253
theorem ba254 : blkOK 254 := okM_at ok254 (n := 3) rfl bd254
theorem ba255 : blkOK 255 := okM_at ok255 (n := 3) rfl bd255
theorem ba256 : blkOK 256 := okM_at ok256 (n := 3) rfl bd256
theorem ba257 : blkOK 257 := okM_at ok257 (n := 3) rfl bd257
theorem ba258 : blkOK 258 := okM_at ok258 (n := 3) rfl bd258
theorem ba259 : blkOK 259 := okM_at ok259 (n := 3) rfl bd259
theorem ba260 : blkOK 260 := okM_at ok260 (n := 3) rfl bd260
theorem ba261 : blkOK 261 := okM_at ok261 (n := 3) rfl bd261
theorem ba262 : blkOK 262 := okM_at ok262 (n := 3) rfl bd262
theorem ba263 : blkOK 263 := okM_at ok263 (n := 3) rfl bd263
theorem ba264 : blkOK 264 := okM_at ok264 (n := 3) rfl bd264
theorem ba265 : blkOK 265 := okM_at ok265 (n := 3) rfl bd265
theorem ba266 : blkOK 266 := okM_at ok266 (n := 3) rfl bd266
theorem ba267 : blkOK 267 := okM_at ok267 (n := 3) rfl bd267
theorem ba268 : blkOK 268 := okM_at ok268 (n := 3) rfl bd268
theorem ba270 : blkOK 270 := okM_at ok270 (n := 1) rfl bd270
theorem ba271 : blkOK 271 := okM_at ok271 (n := 2) rfl bd271
theorem ba272 : blkOK 272 := okM_at ok272 (n := 3) rfl bd272
theorem ba273 : blkOK 273 := okM_at ok273 (n := 3) rfl bd273
theorem ba274 : blkOK 274 := okM_at ok274 (n := 3) rfl bd274
theorem ba275 : blkOK 275 := okM_at ok275 (n := 3) rfl bd275
theorem ba276 : blkOK 276 := okM_at ok276 (n := 1) rfl bd276
theorem ba277 : blkOK 277 := okM_at ok277 (n := 1) rfl bd277
theorem ba278 : blkOK 278 := okM_at ok278 (n := 3) rfl bd278
theorem ba279 : blkOK 279 := okM_at ok279 (n := 3) rfl bd279
theorem ba280 : blkOK 280 := okM_at ok280 (n := 3) rfl bd280
theorem ba281 : blkOK 281 := okM_at ok281 (n := 3) rfl bd281
theorem ba282 : blkOK 282 := okM_at ok282 (n := 3) rfl bd282
theorem ba283 : blkOK 283 := okM_at ok283 (n := 1) rfl bd283
theorem ba284 : blkOK 284 := okM_at ok284 (n := 3) rfl bd284
theorem ba285 : blkOK 285 := okM_at ok285 (n := 3) rfl bd285
theorem ba286 : blkOK 286 := okM_at ok286 (n := 3) rfl bd286
theorem ba287 : blkOK 287 := okM_at ok287 (n := 3) rfl bd287
theorem blk_20 : ∀ m, m < 20 → blkOK m := ltA_s (ltA_s (ltA_s (ltA_s (ltA_s (ltA_s (ltA_s (ltA_s (ltA_s (ltA_s (ltA_s (ltA_s (ltA_s (ltA_s (ltA_s (ltA_s (ltA_s (ltA_s (ltA_s (ltA_s (ltA_z) (ba0)) (ba1)) (ba2)) (ba3)) (ba4)) (ba5)) (ba6)) (ba7)) (ba8)) (ba9)) (ba10)) (ba11)) (ba12)) (ba13)) (ba14)) (ba15)) (ba16)) (ba17)) (ba18)) (ba19)
theorem blk_40 : ∀ m, m < 40 → blkOK m := ltA_s (ltA_s (ltA_s (ltA_s (ltA_s (ltA_s (ltA_s (ltA_s (ltA_s (ltA_s (ltA_s (ltA_s (ltA_s (ltA_s (ltA_s (ltA_s (ltA_s (ltA_s (ltA_s (ltA_s ((blk_20)) (ba20)) (ba21)) (ba22)) (ba23)) (ba24)) (ba25)) (ba26)) (ba27)) (ba28)) (ba29)) (ba30)) (ba31)) (ba32)) (ba33)) (ba34)) (ba35)) (ba36)) (ba37)) (ba38)) (ba39)
theorem blk_60 : ∀ m, m < 60 → blkOK m := ltA_s (ltA_s (ltA_s (ltA_s (ltA_s (ltA_s (ltA_s (ltA_s (ltA_s (ltA_s (ltA_s (ltA_s (ltA_s (ltA_s (ltA_s (ltA_s (ltA_s (ltA_s (ltA_s (ltA_s ((blk_40)) (ba40)) (ba41)) (ba42)) (ba43)) (ba44)) (ba45)) (ba46)) (ba47)) (ba48)) (ba49)) (ba50)) (ba51)) (ba52)) (ba53)) (ba54)) (ba55)) (ba56)) (ba57)) (ba58)) (ba59)
theorem blk_80 : ∀ m, m < 80 → blkOK m := ltA_s (ltA_s (ltA_s (ltA_s (ltA_s (ltA_s (ltA_s (ltA_s (ltA_s (ltA_s (ltA_s (ltA_s (ltA_s (ltA_s (ltA_s (ltA_s (ltA_s (ltA_s (ltA_s (ltA_s ((blk_60)) (ba60)) (ba61)) (ba62)) (ba63)) (ba64)) (ba65)) (ba66)) (ba67)) (ba68)) (ba69)) (ba70)) (ba71)) (ba72)) (ba73)) (ba74)) (ba75)) (ba76)) (ba77)) (ba78)) (ba79)
theorem blk_100 : ∀ m, m < 100 → blkOK m := ltA_s (ltA_s (ltA_s (ltA_s (ltA_s (ltA_s (ltA_s (ltA_s (ltA_s (ltA_s (ltA_s (ltA_s (ltA_s (ltA_s (ltA_s (ltA_s (ltA_s (ltA_s (ltA_s (ltA_s ((blk_80)) (ba80)) (ba81)) (ba82)) (ba83)) (ba84)) (ba85)) (ba86)) (ba87)) (ba88)) (ba89)) (ba90)) (ba91)) (ba92)) (ba93)) (ba94)) (ba95)) (ba96)) (ba97)) (ba98)) (ba99)
theorem blk_120 : ∀ m, m < 120 → blkOK m := ltA_s (ltA_s (ltA_s (ltA_s (ltA_s (ltA_s (ltA_s (ltA_s (ltA_s (ltA_s (ltA_s (ltA_s (ltA_s (ltA_s (ltA_s (ltA_s (ltA_s (ltA_s (ltA_s (ltA_s ((blk_100)) (ba100)) (ba101)) (ba102)) (ba103)) (ba104)) (ba105)) (ba106)) (ba107)) (ba108)) (ba109)) (ba110)) (ba111)) (ba112)) (ba113)) (ba114)) (ba115)) (ba116)) (ba117)) (ba118)) (ba119)
theorem blk_140 : ∀ m, m < 140 → blkOK m := ltA_s (ltA_s (ltA_s (ltA_s (ltA_s (ltA_s (ltA_s (ltA_s (ltA_s (ltA_s (ltA_s (ltA_s (ltA_s (ltA_s (ltA_s (ltA_s (ltA_s (ltA_s (ltA_s (ltA_s ((blk_120)) (ba120)) (ba121)) (ba122)) (ba123)) (ba124)) (ba125)) (ba126)) (ba127)) (ba128)) (ba129)) (ba130)) (ba131)) (ba132)) (ba133)) (ba134)) (ba135)) (ba136)) (ba137)) (ba138)) (ba139)
theorem blk_160 : ∀ m, m < 160 → blkOK m := ltA_s (ltA_s (ltA_s (ltA_s (ltA_s (ltA_s (ltA_s (ltA_s (ltA_s (ltA_s (ltA_s (ltA_s (ltA_s (ltA_s (ltA_s (ltA_s (ltA_s (ltA_s (ltA_s (ltA_s ((blk_140)) (ba140)) (ba141)) (ba142)) (ba143)) (ba144)) (ba145)) (ba146)) (ba147)) (ba148)) (ba149)) (ba150)) (ba151)) (ba152)) (ba153)) (ba154)) (ba155)) (ba156)) (ba157)) (ba158)) (ba159)
theorem blk_180 : ∀ m, m < 180 → blkOK m := ltA_s (ltA_s (ltA_s (ltA_s (ltA_s (ltA_s (ltA_s (ltA_s (ltA_s (ltA_s (ltA_s (ltA_s (ltA_s (ltA_s (ltA_s (ltA_s (ltA_s (ltA_s (ltA_s (ltA_s ((blk_160)) (ba160)) (ba161)) (ba162)) (ba163)) (ba164)) (ba165)) (ba166)) (ba167)) (ba168)) (ba169)) (ba170)) (ba171)) (ba172)) (ba173)) (ba174)) (ba175)) (ba176)) (ba177)) (ba178)) (ba179)
theorem blk_200 : ∀ m, m < 200 → blkOK m := ltA_s (ltA_s (ltA_s (ltA_s (ltA_s (ltA_s (ltA_s (ltA_s (ltA_s (ltA_s (ltA_s (ltA_s (ltA_s (ltA_s (ltA_s (ltA_s (ltA_s (ltA_s (ltA_s (ltA_s ((blk_180)) (ba180)) (ba181)) (ba182)) (ba183)) (ba184)) (ba185)) (ba186)) (ba187)) (ba188)) (ba189)) (ba190)) (ba191)) (ba192)) (ba193)) (ba194)) (ba195)) (ba196)) (ba197)) (ba198)) (ba199)
theorem blk_220 : ∀ m, m < 220 → blkOK m := ltA_s (ltA_s (ltA_s (ltA_s (ltA_s (ltA_s (ltA_s (ltA_s (ltA_s (ltA_s (ltA_s (ltA_s (ltA_s (ltA_s (ltA_s (ltA_s (ltA_s (ltA_s (ltA_s (ltA_s ((blk_200)) (ba200)) (ba201)) (ba202)) (ba203)) (ba204)) (ba205)) (ba206)) (ba207)) (ba208)) (ba209)) (ba210)) (ba211)) (ba212)) (ba213)) (ba214)) (ba215)) (ba216)) (ba217)) (ba218)) (ba219)
theorem blk_240 : ∀ m, m < 240 → blkOK m := ltA_s (ltA_s (ltA_s (ltA_s (ltA_s (ltA_s (ltA_s (ltA_s (ltA_s (ltA_s (ltA_s (ltA_s (ltA_s (ltA_s (ltA_s (ltA_s (ltA_s (ltA_s (ltA_s (ltA_s ((blk_220)) (ba220)) (ba221)) (ba222)) (ba223)) (ba224)) (ba225)) (ba226)) (ba227)) (ba228)) (ba229)) (ba230)) (ba231)) (ba232)) (ba233)) (ba234)) (ba235)) (ba236)) (ba237)) (ba238)) (ba239)
theorem blk_260 : ∀ m, m < 260 → blkOK m := ltA_s (ltA_s (ltA_s (ltA_s (ltA_s (ltA_s (ltA_s (ltA_s (ltA_s (ltA_s (ltA_s (ltA_s (ltA_s (ltA_s (ltA_s (ltA_s (ltA_s (ltA_s (ltA_s (ltA_s ((blk_240)) (ba240)) (ba241)) (ba242)) (ba243)) (ba244)) (ba245)) (ba246)) (ba247)) (ba248)) (ba249)) (ba250)) (ba251)) (ba252)) (ba253)) (ba254)) (ba255)) (ba256)) (ba257)) (ba258)) (ba259)
theorem blk_280 : ∀ m, m < 280 → blkOK m := ltA_s (ltA_s (ltA_s (ltA_s (ltA_s (ltA_s (ltA_s (ltA_s (ltA_s (ltA_s (ltA_s (ltA_s (ltA_s (ltA_s (ltA_s (ltA_s (ltA_s (ltA_s (ltA_s (ltA_s ((blk_260)) (ba260)) (ba261)) (ba262)) (ba263)) (ba264)) (ba265)) (ba266)) (ba267)) (ba268)) (ba269)) (ba270)) (ba271)) (ba272)) (ba273)) (ba274)) (ba275)) (ba276)) (ba277)) (ba278)) (ba279)
theorem blk_288 : ∀ m, m < 288 → blkOK m := ltA_s (ltA_s (ltA_s (ltA_s (ltA_s (ltA_s (ltA_s (ltA_s ((blk_280)) (ba280)) (ba281)) (ba282)) (ba283)) (ba284)) (ba285)) (ba286)) (ba287)
theorem blk_all {m : Nat} (h : m < 288) : blkOK m := blk_288 m h
def wdOK (m : Nat) : Prop := m = 269 ∨ (mtOK m = true ∧ mtC m ∈ lw_tbl ∧ goodWord (mtC m) = true)
theorem wd_20 : ∀ m, m < 20 → wdOK m := ltA_s (ltA_s (ltA_s (ltA_s (ltA_s (ltA_s (ltA_s (ltA_s (ltA_s (ltA_s (ltA_s (ltA_s (ltA_s (ltA_s (ltA_s (ltA_s (ltA_s (ltA_s (ltA_s (ltA_s (ltA_z) (Or.inr ⟨mt0, List.mem_of_getElem? cw0, gw0⟩)) (Or.inr ⟨mt1, List.mem_of_getElem? cw1, gw1⟩)) (Or.inr ⟨mt2, List.mem_of_getElem? cw2, gw2⟩)) (Or.inr ⟨mt3, List.mem_of_getElem? cw3, gw3⟩)) (Or.inr ⟨mt4, List.mem_of_getElem? cw4, gw4⟩)) (Or.inr ⟨mt5, List.mem_of_getElem? cw5, gw5⟩)) (Or.inr ⟨mt6, List.mem_of_getElem? cw6, gw6⟩)) (Or.inr ⟨mt7, List.mem_of_getElem? cw7, gw7⟩)) (Or.inr ⟨mt8, List.mem_of_getElem? cw8, gw8⟩)) (Or.inr ⟨mt9, List.mem_of_getElem? cw9, gw9⟩)) (Or.inr ⟨mt10, List.mem_of_getElem? cw10, gw10⟩)) (Or.inr ⟨mt11, List.mem_of_getElem? cw11, gw11⟩)) (Or.inr ⟨mt12, List.mem_of_getElem? cw12, gw12⟩)) (Or.inr ⟨mt13, List.mem_of_getElem? cw13, gw13⟩)) (Or.inr ⟨mt14, List.mem_of_getElem? cw14, gw14⟩)) (Or.inr ⟨mt15, List.mem_of_getElem? cw15, gw15⟩)) (Or.inr ⟨mt16, List.mem_of_getElem? cw16, gw16⟩)) (Or.inr ⟨mt17, List.mem_of_getElem? cw17, gw17⟩)) (Or.inr ⟨mt18, List.mem_of_getElem? cw18, gw18⟩)) (Or.inr ⟨mt19, List.mem_of_getElem? cw19, gw19⟩)
theorem wd_40 : ∀ m, m < 40 → wdOK m := ltA_s (ltA_s (ltA_s (ltA_s (ltA_s (ltA_s (ltA_s (ltA_s (ltA_s (ltA_s (ltA_s (ltA_s (ltA_s (ltA_s (ltA_s (ltA_s (ltA_s (ltA_s (ltA_s (ltA_s ((wd_20)) (Or.inr ⟨mt20, List.mem_of_getElem? cw20, gw20⟩)) (Or.inr ⟨mt21, List.mem_of_getElem? cw21, gw21⟩)) (Or.inr ⟨mt22, List.mem_of_getElem? cw22, gw22⟩)) (Or.inr ⟨mt23, List.mem_of_getElem? cw23, gw23⟩)) (Or.inr ⟨mt24, List.mem_of_getElem? cw24, gw24⟩)) (Or.inr ⟨mt25, List.mem_of_getElem? cw25, gw25⟩)) (Or.inr ⟨mt26, List.mem_of_getElem? cw26, gw26⟩)) (Or.inr ⟨mt27, List.mem_of_getElem? cw27, gw27⟩)) (Or.inr ⟨mt28, List.mem_of_getElem? cw28, gw28⟩)) (Or.inr ⟨mt29, List.mem_of_getElem? cw29, gw29⟩)) (Or.inr ⟨mt30, List.mem_of_getElem? cw30, gw30⟩)) (Or.inr ⟨mt31, List.mem_of_getElem? cw31, gw31⟩)) (Or.inr ⟨mt32, List.mem_of_getElem? cw32, gw32⟩)) (Or.inr ⟨mt33, List.mem_of_getElem? cw33, gw33⟩)) (Or.inr ⟨mt34, List.mem_of_getElem? cw34, gw34⟩)) (Or.inr ⟨mt35, List.mem_of_getElem? cw35, gw35⟩)) (Or.inr ⟨mt36, List.mem_of_getElem? cw36, gw36⟩)) (Or.inr ⟨mt37, List.mem_of_getElem? cw37, gw37⟩)) (Or.inr ⟨mt38, List.mem_of_getElem? cw38, gw38⟩)) (Or.inr ⟨mt39, List.mem_of_getElem? cw39, gw39⟩)
theorem wd_60 : ∀ m, m < 60 → wdOK m := ltA_s (ltA_s (ltA_s (ltA_s (ltA_s (ltA_s (ltA_s (ltA_s (ltA_s (ltA_s (ltA_s (ltA_s (ltA_s (ltA_s (ltA_s (ltA_s (ltA_s (ltA_s (ltA_s (ltA_s ((wd_40)) (Or.inr ⟨mt40, List.mem_of_getElem? cw40, gw40⟩)) (Or.inr ⟨mt41, List.mem_of_getElem? cw41, gw41⟩)) (Or.inr ⟨mt42, List.mem_of_getElem? cw42, gw42⟩)) (Or.inr ⟨mt43, List.mem_of_getElem? cw43, gw43⟩)) (Or.inr ⟨mt44, List.mem_of_getElem? cw44, gw44⟩)) (Or.inr ⟨mt45, List.mem_of_getElem? cw45, gw45⟩)) (Or.inr ⟨mt46, List.mem_of_getElem? cw46, gw46⟩)) (Or.inr ⟨mt47, List.mem_of_getElem? cw47, gw47⟩)) (Or.inr ⟨mt48, List.mem_of_getElem? cw48, gw48⟩)) (Or.inr ⟨mt49, List.mem_of_getElem? cw49, gw49⟩)) (Or.inr ⟨mt50, List.mem_of_getElem? cw50, gw50⟩)) (Or.inr ⟨mt51, List.mem_of_getElem? cw51, gw51⟩)) (Or.inr ⟨mt52, List.mem_of_getElem? cw52, gw52⟩)) (Or.inr ⟨mt53, List.mem_of_getElem? cw53, gw53⟩)) (Or.inr ⟨mt54, List.mem_of_getElem? cw54, gw54⟩)) (Or.inr ⟨mt55, List.mem_of_getElem? cw55, gw55⟩)) (Or.inr ⟨mt56, List.mem_of_getElem? cw56, gw56⟩)) (Or.inr ⟨mt57, List.mem_of_getElem? cw57, gw57⟩)) (Or.inr ⟨mt58, List.mem_of_getElem? cw58, gw58⟩)) (Or.inr ⟨mt59, List.mem_of_getElem? cw59, gw59⟩)
theorem wd_80 : ∀ m, m < 80 → wdOK m := ltA_s (ltA_s (ltA_s (ltA_s (ltA_s (ltA_s (ltA_s (ltA_s (ltA_s (ltA_s (ltA_s (ltA_s (ltA_s (ltA_s (ltA_s (ltA_s (ltA_s (ltA_s (ltA_s (ltA_s ((wd_60)) (Or.inr ⟨mt60, List.mem_of_getElem? cw60, gw60⟩)) (Or.inr ⟨mt61, List.mem_of_getElem? cw61, gw61⟩)) (Or.inr ⟨mt62, List.mem_of_getElem? cw62, gw62⟩)) (Or.inr ⟨mt63, List.mem_of_getElem? cw63, gw63⟩)) (Or.inr ⟨mt64, List.mem_of_getElem? cw64, gw64⟩)) (Or.inr ⟨mt65, List.mem_of_getElem? cw65, gw65⟩)) (Or.inr ⟨mt66, List.mem_of_getElem? cw66, gw66⟩)) (Or.inr ⟨mt67, List.mem_of_getElem? cw67, gw67⟩)) (Or.inr ⟨mt68, List.mem_of_getElem? cw68, gw68⟩)) (Or.inr ⟨mt69, List.mem_of_getElem? cw69, gw69⟩)) (Or.inr ⟨mt70, List.mem_of_getElem? cw70, gw70⟩)) (Or.inr ⟨mt71, List.mem_of_getElem? cw71, gw71⟩)) (Or.inr ⟨mt72, List.mem_of_getElem? cw72, gw72⟩)) (Or.inr ⟨mt73, List.mem_of_getElem? cw73, gw73⟩)) (Or.inr ⟨mt74, List.mem_of_getElem? cw74, gw74⟩)) (Or.inr ⟨mt75, List.mem_of_getElem? cw75, gw75⟩)) (Or.inr ⟨mt76, List.mem_of_getElem? cw76, gw76⟩)) (Or.inr ⟨mt77, List.mem_of_getElem? cw77, gw77⟩)) (Or.inr ⟨mt78, List.mem_of_getElem? cw78, gw78⟩)) (Or.inr ⟨mt79, List.mem_of_getElem? cw79, gw79⟩)
theorem wd_100 : ∀ m, m < 100 → wdOK m := ltA_s (ltA_s (ltA_s (ltA_s (ltA_s (ltA_s (ltA_s (ltA_s (ltA_s (ltA_s (ltA_s (ltA_s (ltA_s (ltA_s (ltA_s (ltA_s (ltA_s (ltA_s (ltA_s (ltA_s ((wd_80)) (Or.inr ⟨mt80, List.mem_of_getElem? cw80, gw80⟩)) (Or.inr ⟨mt81, List.mem_of_getElem? cw81, gw81⟩)) (Or.inr ⟨mt82, List.mem_of_getElem? cw82, gw82⟩)) (Or.inr ⟨mt83, List.mem_of_getElem? cw83, gw83⟩)) (Or.inr ⟨mt84, List.mem_of_getElem? cw84, gw84⟩)) (Or.inr ⟨mt85, List.mem_of_getElem? cw85, gw85⟩)) (Or.inr ⟨mt86, List.mem_of_getElem? cw86, gw86⟩)) (Or.inr ⟨mt87, List.mem_of_getElem? cw87, gw87⟩)) (Or.inr ⟨mt88, List.mem_of_getElem? cw88, gw88⟩)) (Or.inr ⟨mt89, List.mem_of_getElem? cw89, gw89⟩)) (Or.inr ⟨mt90, List.mem_of_getElem? cw90, gw90⟩)) (Or.inr ⟨mt91, List.mem_of_getElem? cw91, gw91⟩)) (Or.inr ⟨mt92, List.mem_of_getElem? cw92, gw92⟩)) (Or.inr ⟨mt93, List.mem_of_getElem? cw93, gw93⟩)) (Or.inr ⟨mt94, List.mem_of_getElem? cw94, gw94⟩)) (Or.inr ⟨mt95, List.mem_of_getElem? cw95, gw95⟩)) (Or.inr ⟨mt96, List.mem_of_getElem? cw96, gw96⟩)) (Or.inr ⟨mt97, List.mem_of_getElem? cw97, gw97⟩)) (Or.inr ⟨mt98, List.mem_of_getElem? cw98, gw98⟩)) (Or.inr ⟨mt99, List.mem_of_getElem? cw99, gw99⟩)
theorem wd_120 : ∀ m, m < 120 → wdOK m := ltA_s (ltA_s (ltA_s (ltA_s (ltA_s (ltA_s (ltA_s (ltA_s (ltA_s (ltA_s (ltA_s (ltA_s (ltA_s (ltA_s (ltA_s (ltA_s (ltA_s (ltA_s (ltA_s (ltA_s ((wd_100)) (Or.inr ⟨mt100, List.mem_of_getElem? cw100, gw100⟩)) (Or.inr ⟨mt101, List.mem_of_getElem? cw101, gw101⟩)) (Or.inr ⟨mt102, List.mem_of_getElem? cw102, gw102⟩)) (Or.inr ⟨mt103, List.mem_of_getElem? cw103, gw103⟩)) (Or.inr ⟨mt104, List.mem_of_getElem? cw104, gw104⟩)) (Or.inr ⟨mt105, List.mem_of_getElem? cw105, gw105⟩)) (Or.inr ⟨mt106, List.mem_of_getElem? cw106, gw106⟩)) (Or.inr ⟨mt107, List.mem_of_getElem? cw107, gw107⟩)) (Or.inr ⟨mt108, List.mem_of_getElem? cw108, gw108⟩)) (Or.inr ⟨mt109, List.mem_of_getElem? cw109, gw109⟩)) (Or.inr ⟨mt110, List.mem_of_getElem? cw110, gw110⟩)) (Or.inr ⟨mt111, List.mem_of_getElem? cw111, gw111⟩)) (Or.inr ⟨mt112, List.mem_of_getElem? cw112, gw112⟩)) (Or.inr ⟨mt113, List.mem_of_getElem? cw113, gw113⟩)) (Or.inr ⟨mt114, List.mem_of_getElem? cw114, gw114⟩)) (Or.inr ⟨mt115, List.mem_of_getElem? cw115, gw115⟩)) (Or.inr ⟨mt116, List.mem_of_getElem? cw116, gw116⟩)) (Or.inr ⟨mt117, List.mem_of_getElem? cw117, gw117⟩)) (Or.inr ⟨mt118, List.mem_of_getElem? cw118, gw118⟩)) (Or.inr ⟨mt119, List.mem_of_getElem? cw119, gw119⟩)
theorem wd_140 : ∀ m, m < 140 → wdOK m := ltA_s (ltA_s (ltA_s (ltA_s (ltA_s (ltA_s (ltA_s (ltA_s (ltA_s (ltA_s (ltA_s (ltA_s (ltA_s (ltA_s (ltA_s (ltA_s (ltA_s (ltA_s (ltA_s (ltA_s ((wd_120)) (Or.inr ⟨mt120, List.mem_of_getElem? cw120, gw120⟩)) (Or.inr ⟨mt121, List.mem_of_getElem? cw121, gw121⟩)) (Or.inr ⟨mt122, List.mem_of_getElem? cw122, gw122⟩)) (Or.inr ⟨mt123, List.mem_of_getElem? cw123, gw123⟩)) (Or.inr ⟨mt124, List.mem_of_getElem? cw124, gw124⟩)) (Or.inr ⟨mt125, List.mem_of_getElem? cw125, gw125⟩)) (Or.inr ⟨mt126, List.mem_of_getElem? cw126, gw126⟩)) (Or.inr ⟨mt127, List.mem_of_getElem? cw127, gw127⟩)) (Or.inr ⟨mt128, List.mem_of_getElem? cw128, gw128⟩)) (Or.inr ⟨mt129, List.mem_of_getElem? cw129, gw129⟩)) (Or.inr ⟨mt130, List.mem_of_getElem? cw130, gw130⟩)) (Or.inr ⟨mt131, List.mem_of_getElem? cw131, gw131⟩)) (Or.inr ⟨mt132, List.mem_of_getElem? cw132, gw132⟩)) (Or.inr ⟨mt133, List.mem_of_getElem? cw133, gw133⟩)) (Or.inr ⟨mt134, List.mem_of_getElem? cw134, gw134⟩)) (Or.inr ⟨mt135, List.mem_of_getElem? cw135, gw135⟩)) (Or.inr ⟨mt136, List.mem_of_getElem? cw136, gw136⟩)) (Or.inr ⟨mt137, List.mem_of_getElem? cw137, gw137⟩)) (Or.inr ⟨mt138, List.mem_of_getElem? cw138, gw138⟩)) (Or.inr ⟨mt139, List.mem_of_getElem? cw139, gw139⟩)
theorem wd_160 : ∀ m, m < 160 → wdOK m := ltA_s (ltA_s (ltA_s (ltA_s (ltA_s (ltA_s (ltA_s (ltA_s (ltA_s (ltA_s (ltA_s (ltA_s (ltA_s (ltA_s (ltA_s (ltA_s (ltA_s (ltA_s (ltA_s (ltA_s ((wd_140)) (Or.inr ⟨mt140, List.mem_of_getElem? cw140, gw140⟩)) (Or.inr ⟨mt141, List.mem_of_getElem? cw141, gw141⟩)) (Or.inr ⟨mt142, List.mem_of_getElem? cw142, gw142⟩)) (Or.inr ⟨mt143, List.mem_of_getElem? cw143, gw143⟩)) (Or.inr ⟨mt144, List.mem_of_getElem? cw144, gw144⟩)) (Or.inr ⟨mt145, List.mem_of_getElem? cw145, gw145⟩)) (Or.inr ⟨mt146, List.mem_of_getElem? cw146, gw146⟩)) (Or.inr ⟨mt147, List.mem_of_getElem? cw147, gw147⟩)) (Or.inr ⟨mt148, List.mem_of_getElem? cw148, gw148⟩)) (Or.inr ⟨mt149, List.mem_of_getElem? cw149, gw149⟩)) (Or.inr ⟨mt150, List.mem_of_getElem? cw150, gw150⟩)) (Or.inr ⟨mt151, List.mem_of_getElem? cw151, gw151⟩)) (Or.inr ⟨mt152, List.mem_of_getElem? cw152, gw152⟩)) (Or.inr ⟨mt153, List.mem_of_getElem? cw153, gw153⟩)) (Or.inr ⟨mt154, List.mem_of_getElem? cw154, gw154⟩)) (Or.inr ⟨mt155, List.mem_of_getElem? cw155, gw155⟩)) (Or.inr ⟨mt156, List.mem_of_getElem? cw156, gw156⟩)) (Or.inr ⟨mt157, List.mem_of_getElem? cw157, gw157⟩)) (Or.inr ⟨mt158, List.mem_of_getElem? cw158, gw158⟩)) (Or.inr ⟨mt159, List.mem_of_getElem? cw159, gw159⟩)
theorem wd_180 : ∀ m, m < 180 → wdOK m := ltA_s (ltA_s (ltA_s (ltA_s (ltA_s (ltA_s (ltA_s (ltA_s (ltA_s (ltA_s (ltA_s (ltA_s (ltA_s (ltA_s (ltA_s (ltA_s (ltA_s (ltA_s (ltA_s (ltA_s ((wd_160)) (Or.inr ⟨mt160, List.mem_of_getElem? cw160, gw160⟩)) (Or.inr ⟨mt161, List.mem_of_getElem? cw161, gw161⟩)) (Or.inr ⟨mt162, List.mem_of_getElem? cw162, gw162⟩)) (Or.inr ⟨mt163, List.mem_of_getElem? cw163, gw163⟩)) (Or.inr ⟨mt164, List.mem_of_getElem? cw164, gw164⟩)) (Or.inr ⟨mt165, List.mem_of_getElem? cw165, gw165⟩)) (Or.inr ⟨mt166, List.mem_of_getElem? cw166, gw166⟩)) (Or.inr ⟨mt167, List.mem_of_getElem? cw167, gw167⟩)) (Or.inr ⟨mt168, List.mem_of_getElem? cw168, gw168⟩)) (Or.inr ⟨mt169, List.mem_of_getElem? cw169, gw169⟩)) (Or.inr ⟨mt170, List.mem_of_getElem? cw170, gw170⟩)) (Or.inr ⟨mt171, List.mem_of_getElem? cw171, gw171⟩)) (Or.inr ⟨mt172, List.mem_of_getElem? cw172, gw172⟩)) (Or.inr ⟨mt173, List.mem_of_getElem? cw173, gw173⟩)) (Or.inr ⟨mt174, List.mem_of_getElem? cw174, gw174⟩)) (Or.inr ⟨mt175, List.mem_of_getElem? cw175, gw175⟩)) (Or.inr ⟨mt176, List.mem_of_getElem? cw176, gw176⟩)) (Or.inr ⟨mt177, List.mem_of_getElem? cw177, gw177⟩)) (Or.inr ⟨mt178, List.mem_of_getElem? cw178, gw178⟩)) (Or.inr ⟨mt179, List.mem_of_getElem? cw179, gw179⟩)
theorem wd_200 : ∀ m, m < 200 → wdOK m := ltA_s (ltA_s (ltA_s (ltA_s (ltA_s (ltA_s (ltA_s (ltA_s (ltA_s (ltA_s (ltA_s (ltA_s (ltA_s (ltA_s (ltA_s (ltA_s (ltA_s (ltA_s (ltA_s (ltA_s ((wd_180)) (Or.inr ⟨mt180, List.mem_of_getElem? cw180, gw180⟩)) (Or.inr ⟨mt181, List.mem_of_getElem? cw181, gw181⟩)) (Or.inr ⟨mt182, List.mem_of_getElem? cw182, gw182⟩)) (Or.inr ⟨mt183, List.mem_of_getElem? cw183, gw183⟩)) (Or.inr ⟨mt184, List.mem_of_getElem? cw184, gw184⟩)) (Or.inr ⟨mt185, List.mem_of_getElem? cw185, gw185⟩)) (Or.inr ⟨mt186, List.mem_of_getElem? cw186, gw186⟩)) (Or.inr ⟨mt187, List.mem_of_getElem? cw187, gw187⟩)) (Or.inr ⟨mt188, List.mem_of_getElem? cw188, gw188⟩)) (Or.inr ⟨mt189, List.mem_of_getElem? cw189, gw189⟩)) (Or.inr ⟨mt190, List.mem_of_getElem? cw190, gw190⟩)) (Or.inr ⟨mt191, List.mem_of_getElem? cw191, gw191⟩)) (Or.inr ⟨mt192, List.mem_of_getElem? cw192, gw192⟩)) (Or.inr ⟨mt193, List.mem_of_getElem? cw193, gw193⟩)) (Or.inr ⟨mt194, List.mem_of_getElem? cw194, gw194⟩)) (Or.inr ⟨mt195, List.mem_of_getElem? cw195, gw195⟩)) (Or.inr ⟨mt196, List.mem_of_getElem? cw196, gw196⟩)) (Or.inr ⟨mt197, List.mem_of_getElem? cw197, gw197⟩)) (Or.inr ⟨mt198, List.mem_of_getElem? cw198, gw198⟩)) (Or.inr ⟨mt199, List.mem_of_getElem? cw199, gw199⟩)
theorem wd_220 : ∀ m, m < 220 → wdOK m := ltA_s (ltA_s (ltA_s (ltA_s (ltA_s (ltA_s (ltA_s (ltA_s (ltA_s (ltA_s (ltA_s (ltA_s (ltA_s (ltA_s (ltA_s (ltA_s (ltA_s (ltA_s (ltA_s (ltA_s ((wd_200)) (Or.inr ⟨mt200, List.mem_of_getElem? cw200, gw200⟩)) (Or.inr ⟨mt201, List.mem_of_getElem? cw201, gw201⟩)) (Or.inr ⟨mt202, List.mem_of_getElem? cw202, gw202⟩)) (Or.inr ⟨mt203, List.mem_of_getElem? cw203, gw203⟩)) (Or.inr ⟨mt204, List.mem_of_getElem? cw204, gw204⟩)) (Or.inr ⟨mt205, List.mem_of_getElem? cw205, gw205⟩)) (Or.inr ⟨mt206, List.mem_of_getElem? cw206, gw206⟩)) (Or.inr ⟨mt207, List.mem_of_getElem? cw207, gw207⟩)) (Or.inr ⟨mt208, List.mem_of_getElem? cw208, gw208⟩)) (Or.inr ⟨mt209, List.mem_of_getElem? cw209, gw209⟩)) (Or.inr ⟨mt210, List.mem_of_getElem? cw210, gw210⟩)) (Or.inr ⟨mt211, List.mem_of_getElem? cw211, gw211⟩)) (Or.inr ⟨mt212, List.mem_of_getElem? cw212, gw212⟩)) (Or.inr ⟨mt213, List.mem_of_getElem? cw213, gw213⟩)) (Or.inr ⟨mt214, List.mem_of_getElem? cw214, gw214⟩)) (Or.inr ⟨mt215, List.mem_of_getElem? cw215, gw215⟩)) (Or.inr ⟨mt216, List.mem_of_getElem? cw216, gw216⟩)) (Or.inr ⟨mt217, List.mem_of_getElem? cw217, gw217⟩)) (Or.inr ⟨mt218, List.mem_of_getElem? cw218, gw218⟩)) (Or.inr ⟨mt219, List.mem_of_getElem? cw219, gw219⟩)
theorem wd_240 : ∀ m, m < 240 → wdOK m := ltA_s (ltA_s (ltA_s (ltA_s (ltA_s (ltA_s (ltA_s (ltA_s (ltA_s (ltA_s (ltA_s (ltA_s (ltA_s (ltA_s (ltA_s (ltA_s (ltA_s (ltA_s (ltA_s (ltA_s ((wd_220)) (Or.inr ⟨mt220, List.mem_of_getElem? cw220, gw220⟩)) (Or.inr ⟨mt221, List.mem_of_getElem? cw221, gw221⟩)) (Or.inr ⟨mt222, List.mem_of_getElem? cw222, gw222⟩)) (Or.inr ⟨mt223, List.mem_of_getElem? cw223, gw223⟩)) (Or.inr ⟨mt224, List.mem_of_getElem? cw224, gw224⟩)) (Or.inr ⟨mt225, List.mem_of_getElem? cw225, gw225⟩)) (Or.inr ⟨mt226, List.mem_of_getElem? cw226, gw226⟩)) (Or.inr ⟨mt227, List.mem_of_getElem? cw227, gw227⟩)) (Or.inr ⟨mt228, List.mem_of_getElem? cw228, gw228⟩)) (Or.inr ⟨mt229, List.mem_of_getElem? cw229, gw229⟩)) (Or.inr ⟨mt230, List.mem_of_getElem? cw230, gw230⟩)) (Or.inr ⟨mt231, List.mem_of_getElem? cw231, gw231⟩)) (Or.inr ⟨mt232, List.mem_of_getElem? cw232, gw232⟩)) (Or.inr ⟨mt233, List.mem_of_getElem? cw233, gw233⟩)) (Or.inr ⟨mt234, List.mem_of_getElem? cw234, gw234⟩)) (Or.inr ⟨mt235, List.mem_of_getElem? cw235, gw235⟩)) (Or.inr ⟨mt236, List.mem_of_getElem? cw236, gw236⟩)) (Or.inr ⟨mt237, List.mem_of_getElem? cw237, gw237⟩)) (Or.inr ⟨mt238, List.mem_of_getElem? cw238, gw238⟩)) (Or.inr ⟨mt239, List.mem_of_getElem? cw239, gw239⟩)
theorem wd_260 : ∀ m, m < 260 → wdOK m := ltA_s (ltA_s (ltA_s (ltA_s (ltA_s (ltA_s (ltA_s (ltA_s (ltA_s (ltA_s (ltA_s (ltA_s (ltA_s (ltA_s (ltA_s (ltA_s (ltA_s (ltA_s (ltA_s (ltA_s ((wd_240)) (Or.inr ⟨mt240, List.mem_of_getElem? cw240, gw240⟩)) (Or.inr ⟨mt241, List.mem_of_getElem? cw241, gw241⟩)) (Or.inr ⟨mt242, List.mem_of_getElem? cw242, gw242⟩)) (Or.inr ⟨mt243, List.mem_of_getElem? cw243, gw243⟩)) (Or.inr ⟨mt244, List.mem_of_getElem? cw244, gw244⟩)) (Or.inr ⟨mt245, List.mem_of_getElem? cw245, gw245⟩)) (Or.inr ⟨mt246, List.mem_of_getElem? cw246, gw246⟩)) (Or.inr ⟨mt247, List.mem_of_getElem? cw247, gw247⟩)) (Or.inr ⟨mt248, List.mem_of_getElem? cw248, gw248⟩)) (Or.inr ⟨mt249, List.mem_of_getElem? cw249, gw249⟩)) (Or.inr ⟨mt250, List.mem_of_getElem? cw250, gw250⟩)) (Or.inr ⟨mt251, List.mem_of_getElem? cw251, gw251⟩)) (Or.inr ⟨mt252, List.mem_of_getElem? cw252, gw252⟩)) (Or.inr ⟨mt253, List.mem_of_getElem? cw253, gw253⟩)) (Or.inr ⟨mt254, List.mem_of_getElem? cw254, gw254⟩)) (Or.inr ⟨mt255, List.mem_of_getElem? cw255, gw255⟩)) (Or.inr ⟨mt256, List.mem_of_getElem? cw256, gw256⟩)) (Or.inr ⟨mt257, List.mem_of_getElem? cw257, gw257⟩)) (Or.inr ⟨mt258, List.mem_of_getElem? cw258, gw258⟩)) (Or.inr ⟨mt259, List.mem_of_getElem? cw259, gw259⟩)
theorem wd_280 : ∀ m, m < 280 → wdOK m := ltA_s (ltA_s (ltA_s (ltA_s (ltA_s (ltA_s (ltA_s (ltA_s (ltA_s (ltA_s (ltA_s (ltA_s (ltA_s (ltA_s (ltA_s (ltA_s (ltA_s (ltA_s (ltA_s (ltA_s ((wd_260)) (Or.inr ⟨mt260, List.mem_of_getElem? cw260, gw260⟩)) (Or.inr ⟨mt261, List.mem_of_getElem? cw261, gw261⟩)) (Or.inr ⟨mt262, List.mem_of_getElem? cw262, gw262⟩)) (Or.inr ⟨mt263, List.mem_of_getElem? cw263, gw263⟩)) (Or.inr ⟨mt264, List.mem_of_getElem? cw264, gw264⟩)) (Or.inr ⟨mt265, List.mem_of_getElem? cw265, gw265⟩)) (Or.inr ⟨mt266, List.mem_of_getElem? cw266, gw266⟩)) (Or.inr ⟨mt267, List.mem_of_getElem? cw267, gw267⟩)) (Or.inr ⟨mt268, List.mem_of_getElem? cw268, gw268⟩)) (Or.inl rfl)) (Or.inr ⟨mt270, List.mem_of_getElem? cw270, gw270⟩)) (Or.inr ⟨mt271, List.mem_of_getElem? cw271, gw271⟩)) (Or.inr ⟨mt272, List.mem_of_getElem? cw272, gw272⟩)) (Or.inr ⟨mt273, List.mem_of_getElem? cw273, gw273⟩)) (Or.inr ⟨mt274, List.mem_of_getElem? cw274, gw274⟩)) (Or.inr ⟨mt275, List.mem_of_getElem? cw275, gw275⟩)) (Or.inr ⟨mt276, List.mem_of_getElem? cw276, gw276⟩)) (Or.inr ⟨mt277, List.mem_of_getElem? cw277, gw277⟩)) (Or.inr ⟨mt278, List.mem_of_getElem? cw278, gw278⟩)) (Or.inr ⟨mt279, List.mem_of_getElem? cw279, gw279⟩)
theorem wd_288 : ∀ m, m < 288 → wdOK m := ltA_s (ltA_s (ltA_s (ltA_s (ltA_s (ltA_s (ltA_s (ltA_s ((wd_280)) (Or.inr ⟨mt280, List.mem_of_getElem? cw280, gw280⟩)) (Or.inr ⟨mt281, List.mem_of_getElem? cw281, gw281⟩)) (Or.inr ⟨mt282, List.mem_of_getElem? cw282, gw282⟩)) (Or.inr ⟨mt283, List.mem_of_getElem? cw283, gw283⟩)) (Or.inr ⟨mt284, List.mem_of_getElem? cw284, gw284⟩)) (Or.inr ⟨mt285, List.mem_of_getElem? cw285, gw285⟩)) (Or.inr ⟨mt286, List.mem_of_getElem? cw286, gw286⟩)) (Or.inr ⟨mt287, List.mem_of_getElem? cw287, gw287⟩)
theorem wd_all {m : Nat} (h : m < 288) (h2 : m ≠ 269) : mtOK m = true ∧ mtC m ∈ GT := by
  obtain ⟨h3, h4, h5⟩ := (wd_288 m h).resolve_left h2
  exact ⟨h3, List.mem_append_left _ (List.mem_filter.mpr ⟨h4, h5⟩)⟩
theorem lmA_20 : ∀ m, m < 20 → lmOK m = true := ltA_s (ltA_s (ltA_s (ltA_s (ltA_s (ltA_s (ltA_s (ltA_s (ltA_s (ltA_s (ltA_s (ltA_s (ltA_s (ltA_s (ltA_s (ltA_s (ltA_s (ltA_s (ltA_s (ltA_s (ltA_z) (lm0)) (lm1)) (lm2)) (lm3)) (lm4)) (lm5)) (lm6)) (lm7)) (lm8)) (lm9)) (lm10)) (lm11)) (lm12)) (lm13)) (lm14)) (lm15)) (lm16)) (lm17)) (lm18)) (lm19)
theorem lmA_26 : ∀ m, m < 26 → lmOK m = true := ltA_s (ltA_s (ltA_s (ltA_s (ltA_s (ltA_s ((lmA_20)) (lm20)) (lm21)) (lm22)) (lm23)) (lm24)) (lm25)
theorem lm_at {o : Nat} {x : Nat × Nat × Nat × Nat × Nat} (h : x ∈ LMt o) : x.2.1 < 288 ∧ x.2.1 ≠ 269 ∧ lmOK o = true := by
  by_cases ho : o < 26
  · have h1 := lmA_26 o ho
    have h2 := h1
    unfold lmOK at h2
    have h3 := List.all_eq_true.mp h2 x h
    obtain ⟨a, b, c, d, e⟩ := x
    simp only [Bool.and_eq_true, decide_eq_true_eq] at h3
    exact ⟨h3.1.1, h3.1.2, h1⟩
  · rw [(tab_none ho).2.2.2.2.2.2.2.2.1] at h
    cases h
/-! handlers -/
/-- the law's handlers: the place in the class's table, which exception, the place of the word -/
def LXh : List (Nat × Nat × Nat) := [(208, 0, 1777)]
theorem xh0 : LXh.all (fun e => inT e.2.2 (.classLink (CN 13) e.1 (excN e.2.1)) && decide (e.1 ≠ 0) && decide (e.2.1 < 3)) = true := by decide +kernel
def xhN (t : Nat) : Option Nat := (LXh.find? (fun e => e.1 == t)).map (fun e => e.2.1)
theorem xhN_ok {t x : Nat} (h : xhN t = some x) : (.classLink (CN 13) t (excN x)) ∈ GT ∧ t ≠ 0 ∧ x < 3 := by
  unfold xhN at h
  cases hf : LXh.find? (fun e => e.1 == t) with
  | none => rw [hf] at h; cases h
  | some e =>
    rw [hf] at h
    cases h
    have h1 := List.find?_some hf
    have h2 := List.all_eq_true.mp xh0 e (List.mem_of_find?_eq_some hf)
    simp only [Bool.and_eq_true, decide_eq_true_eq] at h2
    have h3 : e.1 = t := by simpa using h1
    rw [h3] at h2
    exact ⟨inT_ok h2.1.1, h2.1.2, h2.2⟩
theorem xh00 : LXh.all (fun e => decide (e.2.1 = 0)) = true := by decide +kernel
theorem xhN_0 {t x : Nat} (h : xhN t = some x) : x = 0 := by
  unfold xhN at h
  cases hf : LXh.find? (fun e => e.1 == t) with
  | none => rw [hf] at h; cases h
  | some e =>
    rw [hf] at h
    cases h
    exact of_decide_eq_true (List.all_eq_true.mp xh00 e (List.mem_of_find?_eq_some hf))
/-- where the exception e goes from pc -/
def hOK (P : Nat → Nat) (pc e k : Nat) : List (Nat × Nat × Nat × Nat) → Bool
  | [] => false
  | (a, b, c, t) :: hh => if a ≤ pc ∧ pc < b then (match xhN t with | some x => if x = e then decide (c = P k) else hOK P pc e k hh | none => false) else hOK P pc e k hh
/-- what a call's exceptions come to -/
def xL (o : Nat) (hh : List (Nat × Nat × Nat × Nat)) (P : Nat → Nat) (pc : Nat) : List Nat → Bool
  | [] => true
  | [e, k] => (o == 13) && decide (e < 3) && hOK P pc e k hh
  | [e, k, e2, k2] => (o == 13) && decide (e < 3) && hOK P pc e k hh && decide (e2 < 3) && hOK P pc e2 k2 hh
  | _ => false
def xI (o : Nat) (hh : List (Nat × Nat × Nat × Nat)) (P : Nat → Nat) (pc : Nat) (i : MI) : Bool := match i.1 with
  | .invokevirtual idx => (match i.2.1 with
    | m :: n :: l => (l.isEmpty || isM o idx m 0 n) && xL o hh P pc l
    | _ => false)
  | .invokestatic _ => (i.2.1.drop 2).isEmpty
  | .invokespecial _ => (i.2.1.drop 2).isEmpty
  | .invokeinterface _ _ => (i.2.1.drop 2).isEmpty
  | .invokedynamic 3 => hh.isEmpty
  | _ => true
theorem xL_nil {o : Nat} {P : Nat → Nat} {pc : Nat} {l : List Nat} (h : xL o [] P pc l = true) : l = [] := by
  unfold xL at h
  split at h
  · rfl
  · simp [hOK] at h
  · simp [hOK] at h
  · cases h
def xF (o : Nat) (ini : Bool) (ret : Option FieldType) (cc : ByteArray) (hh : List (Nat × Nat × Nat × Nat)) (P : Nat → Nat) : Nat → List MI → Bool
  | _, [] => true
  | pc, i :: is => xI o hh P pc i && match okI o ini ret cc P pc i with
    | some q => xF o ini ret cc hh P q is
    | none => false
theorem xF_of {o : Nat} {ini : Bool} {ret : Option FieldType} {cc : ByteArray} {P : Nat → Nat} : ∀ {is : List MI} {pc : Nat}, is.all (fun i => xI o [] (fun _ => 0) 0 i) = true → okF o ini ret cc P pc is = true → xF o ini ret cc [] P pc is = true
  | [], _, _, _ => rfl
  | i :: is, pc, h, k => by
    simp only [List.all_cons, Bool.and_eq_true] at h
    unfold okF at k
    unfold xF
    have h1 : xI o [] P pc i = true := by
      have h2 := h.1
      unfold xI at h2 ⊢
      split at h2
      · split at h2
        · rename_i hi
          simp only [Bool.and_eq_true] at h2
          have e := xL_nil h2.2
          subst e
          rfl
        · cases h2
      · exact h2
      · exact h2
      · exact h2
      · rfl
      · rfl
    rw [h1, Bool.true_and]
    split at k
    · rename_i q hq
      rw [hq]
      exact xF_of h.2 k
    · cases k
def xM (m : Nat) : Bool := if (mInf m).2.2.2.2.2.2.2.2.2.2.isEmpty = true then (List.range (bp m).2.2).all (fun k => ((bp m).1 k).all (fun i => xI (mInf m).2.2.1 [] (fun _ => 0) 0 i))
  else (List.range (bp m).2.2).all (fun k => xF (mInf m).2.2.1 (decide ((mInf m).1.name = "<init>")) (mInf m).2.2.2.2.1 (mInf m).2.1 (mInf m).2.2.2.2.2.2.2.2.2.2 (bp m).2.1 ((bp m).2.1 k) ((bp m).1 k))
def xOK (m : Nat) : Prop := ∀ k, xF (mInf m).2.2.1 (decide ((mInf m).1.name = "<init>")) (mInf m).2.2.2.2.1 (mInf m).2.1 (mInf m).2.2.2.2.2.2.2.2.2.2 (bp m).2.1 ((bp m).2.1 k) ((bp m).1 k) = true
theorem xM_at {m n : Nat} (h : xM m = true) (hB : blkOK m) (hn : (bp m).2.2 = n) (hb : ∀ k, (bp m).1 (k + n) = []) : xOK m := by
  intro k
  by_cases hk : k < n
  · unfold xM at h
    rw [hn] at h
    split at h
    · rename_i he
      have e : (mInf m).2.2.2.2.2.2.2.2.2.2 = [] := by simpa using he
      rw [e]
      exact xF_of (List.all_eq_true.mp h k (List.mem_range.mpr hk)) (hB k)
    · exact List.all_eq_true.mp h k (List.mem_range.mpr hk)
  · obtain ⟨j, rfl⟩ : ∃ j, k = j + n := ⟨k - n, by omega⟩
    rw [hb j]
    unfold xF
    rfl
theorem xk0 : xM 0 = true := by decide +kernel
theorem xo0 : xOK 0 := xM_at xk0 ba0 (n := 1) rfl bd0
theorem xk1 : xM 1 = true := by decide +kernel
theorem xo1 : xOK 1 := xM_at xk1 ba1 (n := 7) rfl bd1
theorem xk2 : xM 2 = true := by decide +kernel
theorem xo2 : xOK 2 := xM_at xk2 ba2 (n := 6) rfl bd2
theorem xk3 : xM 3 = true := by decide +kernel
theorem xo3 : xOK 3 := xM_at xk3 ba3 (n := 11) rfl bd3
theorem xk4 : xM 4 = true := by decide +kernel
theorem xo4 : xOK 4 := xM_at xk4 ba4 (n := 11) rfl bd4
theorem xk5 : xM 5 = true := by decide +kernel
theorem xo5 : xOK 5 := xM_at xk5 ba5 (n := 5) rfl bd5
theorem xk6 : xM 6 = true := by decide +kernel
theorem xo6 : xOK 6 := xM_at xk6 ba6 (n := 19) rfl bd6
theorem xk7 : xM 7 = true := by decide +kernel
theorem xo7 : xOK 7 := xM_at xk7 ba7 (n := 5) rfl bd7
theorem xk8 : xM 8 = true := by decide +kernel
theorem xo8 : xOK 8 := xM_at xk8 ba8 (n := 17) rfl bd8
theorem xk9 : xM 9 = true := by decide +kernel
theorem xo9 : xOK 9 := xM_at xk9 ba9 (n := 19) rfl bd9
theorem xk10 : xM 10 = true := by decide +kernel
theorem xo10 : xOK 10 := xM_at xk10 ba10 (n := 1) rfl bd10
theorem xk11 : xM 11 = true := by decide +kernel
theorem xo11 : xOK 11 := xM_at xk11 ba11 (n := 3) rfl bd11
theorem xk12 : xM 12 = true := by decide +kernel
theorem xo12 : xOK 12 := xM_at xk12 ba12 (n := 3) rfl bd12
theorem xk13 : xM 13 = true := by decide +kernel
theorem xo13 : xOK 13 := xM_at xk13 ba13 (n := 1) rfl bd13
theorem xk14 : xM 14 = true := by decide +kernel
theorem xo14 : xOK 14 := xM_at xk14 ba14 (n := 3) rfl bd14
theorem xk15 : xM 15 = true := by decide +kernel
theorem xo15 : xOK 15 := xM_at xk15 ba15 (n := 4) rfl bd15
theorem xk16 : xM 16 = true := by decide +kernel
theorem xo16 : xOK 16 := xM_at xk16 ba16 (n := 7) rfl bd16
theorem xk17 : xM 17 = true := by decide +kernel
theorem xo17 : xOK 17 := xM_at xk17 ba17 (n := 5) rfl bd17
theorem xk18 : xM 18 = true := by decide +kernel
theorem xo18 : xOK 18 := xM_at xk18 ba18 (n := 3) rfl bd18
theorem xk19 : xM 19 = true := by decide +kernel
theorem xo19 : xOK 19 := xM_at xk19 ba19 (n := 5) rfl bd19
theorem xk20 : xM 20 = true := by decide +kernel
theorem xo20 : xOK 20 := xM_at xk20 ba20 (n := 5) rfl bd20
theorem xk21 : xM 21 = true := by decide +kernel
theorem xo21 : xOK 21 := xM_at xk21 ba21 (n := 10) rfl bd21
theorem xk22 : xM 22 = true := by decide +kernel
theorem xo22 : xOK 22 := xM_at xk22 ba22 (n := 3) rfl bd22
theorem xk23 : xM 23 = true := by decide +kernel
theorem xo23 : xOK 23 := xM_at xk23 ba23 (n := 8) rfl bd23
theorem xk24 : xM 24 = true := by decide +kernel
theorem xo24 : xOK 24 := xM_at xk24 ba24 (n := 7) rfl bd24
theorem xk25 : xM 25 = true := by decide +kernel
theorem xo25 : xOK 25 := xM_at xk25 ba25 (n := 4) rfl bd25
theorem xk26 : xM 26 = true := by decide +kernel
theorem xo26 : xOK 26 := xM_at xk26 ba26 (n := 1) rfl bd26
theorem xk27 : xM 27 = true := by decide +kernel
theorem xo27 : xOK 27 := xM_at xk27 ba27 (n := 4) rfl bd27
theorem xk28 : xM 28 = true := by decide +kernel
theorem xo28 : xOK 28 := xM_at xk28 ba28 (n := 5) rfl bd28
theorem xk29 : xM 29 = true := by decide +kernel
theorem xo29 : xOK 29 := xM_at xk29 ba29 (n := 6) rfl bd29
theorem xk30 : xM 30 = true := by decide +kernel
theorem xo30 : xOK 30 := xM_at xk30 ba30 (n := 4) rfl bd30
theorem xk31 : xM 31 = true := by decide +kernel
theorem xo31 : xOK 31 := xM_at xk31 ba31 (n := 1) rfl bd31
theorem xk32 : xM 32 = true := by decide +kernel
theorem xo32 : xOK 32 := xM_at xk32 ba32 (n := 3) rfl bd32
theorem xk33 : xM 33 = true := by decide +kernel
theorem xo33 : xOK 33 := xM_at xk33 ba33 (n := 11) rfl bd33
theorem xk34 : xM 34 = true := by decide +kernel
theorem xo34 : xOK 34 := xM_at xk34 ba34 (n := 3) rfl bd34
theorem xk35 : xM 35 = true := by decide +kernel
theorem xo35 : xOK 35 := xM_at xk35 ba35 (n := 2) rfl bd35
theorem xk36 : xM 36 = true := by decide +kernel
theorem xo36 : xOK 36 := xM_at xk36 ba36 (n := 2) rfl bd36
theorem xk37 : xM 37 = true := by decide +kernel
theorem xo37 : xOK 37 := xM_at xk37 ba37 (n := 2) rfl bd37
theorem xk38 : xM 38 = true := by decide +kernel
theorem xo38 : xOK 38 := xM_at xk38 ba38 (n := 4) rfl bd38
theorem xk39 : xM 39 = true := by decide +kernel
theorem xo39 : xOK 39 := xM_at xk39 ba39 (n := 2) rfl bd39
theorem xk40 : xM 40 = true := by decide +kernel
theorem xo40 : xOK 40 := xM_at xk40 ba40 (n := 4) rfl bd40
theorem xk41 : xM 41 = true := by decide +kernel
theorem xo41 : xOK 41 := xM_at xk41 ba41 (n := 3) rfl bd41
theorem xk42 : xM 42 = true := by decide +kernel
theorem xo42 : xOK 42 := xM_at xk42 ba42 (n := 1) rfl bd42
theorem xk43 : xM 43 = true := by decide +kernel
theorem xo43 : xOK 43 := xM_at xk43 ba43 (n := 1) rfl bd43
theorem xk44 : xM 44 = true := by decide +kernel
theorem xo44 : xOK 44 := xM_at xk44 ba44 (n := 2) rfl bd44
theorem xk45 : xM 45 = true := by decide +kernel
theorem xo45 : xOK 45 := xM_at xk45 ba45 (n := 3) rfl bd45
theorem xk46 : xM 46 = true := by decide +kernel
theorem xo46 : xOK 46 := xM_at xk46 ba46 (n := 2) rfl bd46
theorem xk47 : xM 47 = true := by decide +kernel
theorem xo47 : xOK 47 := xM_at xk47 ba47 (n := 2) rfl bd47
theorem xk48 : xM 48 = true := by decide +kernel
theorem xo48 : xOK 48 := xM_at xk48 ba48 (n := 2) rfl bd48
theorem xk49 : xM 49 = true := by decide +kernel
theorem xo49 : xOK 49 := xM_at xk49 ba49 (n := 1) rfl bd49
theorem xk50 : xM 50 = true := by decide +kernel
theorem xo50 : xOK 50 := xM_at xk50 ba50 (n := 1) rfl bd50
theorem xk51 : xM 51 = true := by decide +kernel
theorem xo51 : xOK 51 := xM_at xk51 ba51 (n := 1) rfl bd51
theorem xk52 : xM 52 = true := by decide +kernel
theorem xo52 : xOK 52 := xM_at xk52 ba52 (n := 8) rfl bd52
theorem xk53 : xM 53 = true := by decide +kernel
theorem xo53 : xOK 53 := xM_at xk53 ba53 (n := 2) rfl bd53
theorem xk54 : xM 54 = true := by decide +kernel
theorem xo54 : xOK 54 := xM_at xk54 ba54 (n := 2) rfl bd54
theorem xk55 : xM 55 = true := by decide +kernel
theorem xo55 : xOK 55 := xM_at xk55 ba55 (n := 12) rfl bd55
theorem xk56 : xM 56 = true := by decide +kernel
theorem xo56 : xOK 56 := xM_at xk56 ba56 (n := 23) rfl bd56
theorem xk57 : xM 57 = true := by decide +kernel
theorem xo57 : xOK 57 := xM_at xk57 ba57 (n := 17) rfl bd57
theorem xk58 : xM 58 = true := by decide +kernel
theorem xo58 : xOK 58 := xM_at xk58 ba58 (n := 1) rfl bd58
theorem xk59 : xM 59 = true := by decide +kernel
theorem xo59 : xOK 59 := xM_at xk59 ba59 (n := 3) rfl bd59
theorem xk60 : xM 60 = true := by decide +kernel
theorem xo60 : xOK 60 := xM_at xk60 ba60 (n := 1) rfl bd60
theorem xk61 : xM 61 = true := by decide +kernel
theorem xo61 : xOK 61 := xM_at xk61 ba61 (n := 1) rfl bd61
theorem xk62 : xM 62 = true := by decide +kernel
theorem xo62 : xOK 62 := xM_at xk62 ba62 (n := 3) rfl bd62
theorem xk63 : xM 63 = true := by decide +kernel
theorem xo63 : xOK 63 := xM_at xk63 ba63 (n := 4) rfl bd63
theorem xk64 : xM 64 = true := by decide +kernel
theorem xo64 : xOK 64 := xM_at xk64 ba64 (n := 4) rfl bd64
theorem xk65 : xM 65 = true := by decide +kernel
theorem xo65 : xOK 65 := xM_at xk65 ba65 (n := 3) rfl bd65
theorem xk66 : xM 66 = true := by decide +kernel
theorem xo66 : xOK 66 := xM_at xk66 ba66 (n := 5) rfl bd66
theorem xk67 : xM 67 = true := by decide +kernel
theorem xo67 : xOK 67 := xM_at xk67 ba67 (n := 5) rfl bd67
theorem xk68 : xM 68 = true := by decide +kernel
theorem xo68 : xOK 68 := xM_at xk68 ba68 (n := 4) rfl bd68
theorem xk69 : xM 69 = true := by decide +kernel
theorem xo69 : xOK 69 := xM_at xk69 ba69 (n := 3) rfl bd69
theorem xk70 : xM 70 = true := by decide +kernel
theorem xo70 : xOK 70 := xM_at xk70 ba70 (n := 5) rfl bd70
theorem xk71 : xM 71 = true := by decide +kernel
theorem xo71 : xOK 71 := xM_at xk71 ba71 (n := 6) rfl bd71
theorem xk72 : xM 72 = true := by decide +kernel
theorem xo72 : xOK 72 := xM_at xk72 ba72 (n := 11) rfl bd72
theorem xk73 : xM 73 = true := by decide +kernel
theorem xo73 : xOK 73 := xM_at xk73 ba73 (n := 3) rfl bd73
theorem xk74 : xM 74 = true := by decide +kernel
theorem xo74 : xOK 74 := xM_at xk74 ba74 (n := 3) rfl bd74
theorem xk75 : xM 75 = true := by decide +kernel
theorem xo75 : xOK 75 := xM_at xk75 ba75 (n := 11) rfl bd75
theorem xk76 : xM 76 = true := by decide +kernel
theorem xo76 : xOK 76 := xM_at xk76 ba76 (n := 3) rfl bd76
theorem xk77 : xM 77 = true := by decide +kernel
theorem xo77 : xOK 77 := xM_at xk77 ba77 (n := 3) rfl bd77
theorem xk78 : xM 78 = true := by decide +kernel
theorem xo78 : xOK 78 := xM_at xk78 ba78 (n := 5) rfl bd78
theorem xk79 : xM 79 = true := by decide +kernel
theorem xo79 : xOK 79 := xM_at xk79 ba79 (n := 1) rfl bd79
theorem xk80 : xM 80 = true := by decide +kernel
theorem xo80 : xOK 80 := xM_at xk80 ba80 (n := 1) rfl bd80
theorem xk81 : xM 81 = true := by decide +kernel
theorem xo81 : xOK 81 := xM_at xk81 ba81 (n := 1) rfl bd81
theorem xk82 : xM 82 = true := by decide +kernel
theorem xo82 : xOK 82 := xM_at xk82 ba82 (n := 7) rfl bd82
theorem xk83 : xM 83 = true := by decide +kernel
theorem xo83 : xOK 83 := xM_at xk83 ba83 (n := 9) rfl bd83
theorem xk84 : xM 84 = true := by decide +kernel
theorem xo84 : xOK 84 := xM_at xk84 ba84 (n := 4) rfl bd84
theorem xk85 : xM 85 = true := by decide +kernel
theorem xo85 : xOK 85 := xM_at xk85 ba85 (n := 6) rfl bd85
theorem xk86 : xM 86 = true := by decide +kernel
theorem xo86 : xOK 86 := xM_at xk86 ba86 (n := 3) rfl bd86
theorem xk87 : xM 87 = true := by decide +kernel
theorem xo87 : xOK 87 := xM_at xk87 ba87 (n := 3) rfl bd87
theorem xk88 : xM 88 = true := by decide +kernel
theorem xo88 : xOK 88 := xM_at xk88 ba88 (n := 3) rfl bd88
theorem xk89 : xM 89 = true := by decide +kernel
theorem xo89 : xOK 89 := xM_at xk89 ba89 (n := 3) rfl bd89
theorem xk90 : xM 90 = true := by decide +kernel
theorem xo90 : xOK 90 := xM_at xk90 ba90 (n := 3) rfl bd90
theorem xk91 : xM 91 = true := by decide +kernel
theorem xo91 : xOK 91 := xM_at xk91 ba91 (n := 3) rfl bd91
theorem xk92 : xM 92 = true := by decide +kernel
theorem xo92 : xOK 92 := xM_at xk92 ba92 (n := 2) rfl bd92
theorem xk93 : xM 93 = true := by decide +kernel
theorem xo93 : xOK 93 := xM_at xk93 ba93 (n := 2) rfl bd93
theorem xk94 : xM 94 = true := by decide +kernel
theorem xo94 : xOK 94 := xM_at xk94 ba94 (n := 10) rfl bd94
theorem xk95 : xM 95 = true := by decide +kernel
theorem xo95 : xOK 95 := xM_at xk95 ba95 (n := 4) rfl bd95
theorem xk96 : xM 96 = true := by decide +kernel
theorem xo96 : xOK 96 := xM_at xk96 ba96 (n := 9) rfl bd96
theorem xk97 : xM 97 = true := by decide +kernel
theorem xo97 : xOK 97 := xM_at xk97 ba97 (n := 8) rfl bd97
theorem xk98 : xM 98 = true := by decide +kernel
theorem xo98 : xOK 98 := xM_at xk98 ba98 (n := 4) rfl bd98
theorem xk99 : xM 99 = true := by decide +kernel
theorem xo99 : xOK 99 := xM_at xk99 ba99 (n := 4) rfl bd99
theorem xk100 : xM 100 = true := by decide +kernel
theorem xo100 : xOK 100 := xM_at xk100 ba100 (n := 3) rfl bd100
theorem xk101 : xM 101 = true := by decide +kernel
theorem xo101 : xOK 101 := xM_at xk101 ba101 (n := 5) rfl bd101
theorem xk102 : xM 102 = true := by decide +kernel
theorem xo102 : xOK 102 := xM_at xk102 ba102 (n := 3) rfl bd102
theorem xk103 : xM 103 = true := by decide +kernel
theorem xo103 : xOK 103 := xM_at xk103 ba103 (n := 3) rfl bd103
theorem xk104 : xM 104 = true := by decide +kernel
theorem xo104 : xOK 104 := xM_at xk104 ba104 (n := 1) rfl bd104
theorem xk105 : xM 105 = true := by decide +kernel
theorem xo105 : xOK 105 := xM_at xk105 ba105 (n := 2) rfl bd105
theorem xk106 : xM 106 = true := by decide +kernel
theorem xo106 : xOK 106 := xM_at xk106 ba106 (n := 3) rfl bd106
theorem xk107 : xM 107 = true := by decide +kernel
theorem xo107 : xOK 107 := xM_at xk107 ba107 (n := 3) rfl bd107
theorem xk108 : xM 108 = true := by decide +kernel
theorem xo108 : xOK 108 := xM_at xk108 ba108 (n := 3) rfl bd108
theorem xk109 : xM 109 = true := by decide +kernel
theorem xo109 : xOK 109 := xM_at xk109 ba109 (n := 1) rfl bd109
theorem xk110 : xM 110 = true := by decide +kernel
theorem xo110 : xOK 110 := xM_at xk110 ba110 (n := 3) rfl bd110
theorem xk111 : xM 111 = true := by decide +kernel
theorem xo111 : xOK 111 := xM_at xk111 ba111 (n := 8) rfl bd111
theorem xk112 : xM 112 = true := by decide +kernel
theorem xo112 : xOK 112 := xM_at xk112 ba112 (n := 3) rfl bd112
theorem xk113 : xM 113 = true := by decide +kernel
theorem xo113 : xOK 113 := xM_at xk113 ba113 (n := 5) rfl bd113
theorem xk114 : xM 114 = true := by decide +kernel
theorem xo114 : xOK 114 := xM_at xk114 ba114 (n := 3) rfl bd114
theorem xk115 : xM 115 = true := by decide +kernel
theorem xo115 : xOK 115 := xM_at xk115 ba115 (n := 16) rfl bd115
theorem xk116 : xM 116 = true := by decide +kernel
theorem xo116 : xOK 116 := xM_at xk116 ba116 (n := 3) rfl bd116
theorem xk117 : xM 117 = true := by decide +kernel
theorem xo117 : xOK 117 := xM_at xk117 ba117 (n := 5) rfl bd117
theorem xk118 : xM 118 = true := by decide +kernel
theorem xo118 : xOK 118 := xM_at xk118 ba118 (n := 3) rfl bd118
theorem xk119 : xM 119 = true := by decide +kernel
theorem xo119 : xOK 119 := xM_at xk119 ba119 (n := 3) rfl bd119
theorem xk120 : xM 120 = true := by decide +kernel
theorem xo120 : xOK 120 := xM_at xk120 ba120 (n := 3) rfl bd120
theorem xk121 : xM 121 = true := by decide +kernel
theorem xo121 : xOK 121 := xM_at xk121 ba121 (n := 3) rfl bd121
theorem xk122 : xM 122 = true := by decide +kernel
theorem xo122 : xOK 122 := xM_at xk122 ba122 (n := 3) rfl bd122
theorem xk123 : xM 123 = true := by decide +kernel
theorem xo123 : xOK 123 := xM_at xk123 ba123 (n := 3) rfl bd123
theorem xk124 : xM 124 = true := by decide +kernel
theorem xo124 : xOK 124 := xM_at xk124 ba124 (n := 2) rfl bd124
theorem xk125 : xM 125 = true := by decide +kernel
theorem xo125 : xOK 125 := xM_at xk125 ba125 (n := 2) rfl bd125
theorem xk126 : xM 126 = true := by decide +kernel
theorem xo126 : xOK 126 := xM_at xk126 ba126 (n := 4) rfl bd126
theorem xk127 : xM 127 = true := by decide +kernel
theorem xo127 : xOK 127 := xM_at xk127 ba127 (n := 3) rfl bd127
theorem xk128 : xM 128 = true := by decide +kernel
theorem xo128 : xOK 128 := xM_at xk128 ba128 (n := 4) rfl bd128
theorem xk129 : xM 129 = true := by decide +kernel
theorem xo129 : xOK 129 := xM_at xk129 ba129 (n := 4) rfl bd129
theorem xk130 : xM 130 = true := by decide +kernel
theorem xo130 : xOK 130 := xM_at xk130 ba130 (n := 3) rfl bd130
theorem xk131 : xM 131 = true := by decide +kernel
theorem xo131 : xOK 131 := xM_at xk131 ba131 (n := 3) rfl bd131
theorem xk132 : xM 132 = true := by decide +kernel
theorem xo132 : xOK 132 := xM_at xk132 ba132 (n := 5) rfl bd132
theorem xk133 : xM 133 = true := by decide +kernel
theorem xo133 : xOK 133 := xM_at xk133 ba133 (n := 1) rfl bd133
theorem xk134 : xM 134 = true := by decide +kernel
theorem xo134 : xOK 134 := xM_at xk134 ba134 (n := 17) rfl bd134
theorem xk135 : xM 135 = true := by decide +kernel
theorem xo135 : xOK 135 := xM_at xk135 ba135 (n := 6) rfl bd135
theorem xk136 : xM 136 = true := by decide +kernel
theorem xo136 : xOK 136 := xM_at xk136 ba136 (n := 3) rfl bd136
theorem xk137 : xM 137 = true := by decide +kernel
theorem xo137 : xOK 137 := xM_at xk137 ba137 (n := 7) rfl bd137
theorem xk138 : xM 138 = true := by decide +kernel
theorem xo138 : xOK 138 := xM_at xk138 ba138 (n := 7) rfl bd138
theorem xk139 : xM 139 = true := by decide +kernel
theorem xo139 : xOK 139 := xM_at xk139 ba139 (n := 5) rfl bd139
theorem xk140 : xM 140 = true := by decide +kernel
theorem xo140 : xOK 140 := xM_at xk140 ba140 (n := 3) rfl bd140
theorem xk141 : xM 141 = true := by decide +kernel
theorem xo141 : xOK 141 := xM_at xk141 ba141 (n := 7) rfl bd141
theorem xk142 : xM 142 = true := by decide +kernel
theorem xo142 : xOK 142 := xM_at xk142 ba142 (n := 19) rfl bd142
theorem xk143 : xM 143 = true := by decide +kernel
theorem xo143 : xOK 143 := xM_at xk143 ba143 (n := 5) rfl bd143
theorem xk144 : xM 144 = true := by decide +kernel
theorem xo144 : xOK 144 := xM_at xk144 ba144 (n := 3) rfl bd144
theorem xk145 : xM 145 = true := by decide +kernel
theorem xo145 : xOK 145 := xM_at xk145 ba145 (n := 3) rfl bd145
theorem xk146 : xM 146 = true := by decide +kernel
theorem xo146 : xOK 146 := xM_at xk146 ba146 (n := 5) rfl bd146
theorem xk147 : xM 147 = true := by decide +kernel
theorem xo147 : xOK 147 := xM_at xk147 ba147 (n := 3) rfl bd147
theorem xk148 : xM 148 = true := by decide +kernel
theorem xo148 : xOK 148 := xM_at xk148 ba148 (n := 9) rfl bd148
theorem xk149 : xM 149 = true := by decide +kernel
theorem xo149 : xOK 149 := xM_at xk149 ba149 (n := 27) rfl bd149
theorem xk150 : xM 150 = true := by decide +kernel
theorem xo150 : xOK 150 := xM_at xk150 ba150 (n := 9) rfl bd150
theorem xk151 : xM 151 = true := by decide +kernel
theorem xo151 : xOK 151 := xM_at xk151 ba151 (n := 2) rfl bd151
theorem xk152 : xM 152 = true := by decide +kernel
theorem xo152 : xOK 152 := xM_at xk152 ba152 (n := 28) rfl bd152
theorem xk153 : xM 153 = true := by decide +kernel
theorem xo153 : xOK 153 := xM_at xk153 ba153 (n := 9) rfl bd153
theorem xk154 : xM 154 = true := by decide +kernel
theorem xo154 : xOK 154 := xM_at xk154 ba154 (n := 53) rfl bd154
theorem xk155 : xM 155 = true := by decide +kernel
theorem xo155 : xOK 155 := xM_at xk155 ba155 (n := 1) rfl bd155
theorem xk156 : xM 156 = true := by decide +kernel
theorem xo156 : xOK 156 := xM_at xk156 ba156 (n := 3) rfl bd156
theorem xk157 : xM 157 = true := by decide +kernel
theorem xo157 : xOK 157 := xM_at xk157 ba157 (n := 7) rfl bd157
theorem xk158 : xM 158 = true := by decide +kernel
theorem xo158 : xOK 158 := xM_at xk158 ba158 (n := 9) rfl bd158
theorem xk159 : xM 159 = true := by decide +kernel
theorem xo159 : xOK 159 := xM_at xk159 ba159 (n := 10) rfl bd159
theorem xk160 : xM 160 = true := by decide +kernel
theorem xo160 : xOK 160 := xM_at xk160 ba160 (n := 22) rfl bd160
theorem xk161 : xM 161 = true := by decide +kernel
theorem xo161 : xOK 161 := xM_at xk161 ba161 (n := 31) rfl bd161
theorem xk162 : xM 162 = true := by decide +kernel
theorem xo162 : xOK 162 := xM_at xk162 ba162 (n := 8) rfl bd162
theorem xk163 : xM 163 = true := by decide +kernel
theorem xo163 : xOK 163 := xM_at xk163 ba163 (n := 3) rfl bd163
theorem xk164 : xM 164 = true := by decide +kernel
theorem xo164 : xOK 164 := xM_at xk164 ba164 (n := 1) rfl bd164
theorem xk165 : xM 165 = true := by decide +kernel
theorem xo165 : xOK 165 := xM_at xk165 ba165 (n := 4) rfl bd165
theorem xk166 : xM 166 = true := by decide +kernel
theorem xo166 : xOK 166 := xM_at xk166 ba166 (n := 1) rfl bd166
theorem xk167 : xM 167 = true := by decide +kernel
theorem xo167 : xOK 167 := xM_at xk167 ba167 (n := 1) rfl bd167
theorem xk168 : xM 168 = true := by decide +kernel
theorem xo168 : xOK 168 := xM_at xk168 ba168 (n := 1) rfl bd168
theorem xk169 : xM 169 = true := by decide +kernel
theorem xo169 : xOK 169 := xM_at xk169 ba169 (n := 1) rfl bd169
theorem xk170 : xM 170 = true := by decide +kernel
theorem xo170 : xOK 170 := xM_at xk170 ba170 (n := 1) rfl bd170
theorem xk171 : xM 171 = true := by decide +kernel
theorem xo171 : xOK 171 := xM_at xk171 ba171 (n := 3) rfl bd171
theorem xk172 : xM 172 = true := by decide +kernel
theorem xo172 : xOK 172 := xM_at xk172 ba172 (n := 2) rfl bd172
theorem xk173 : xM 173 = true := by decide +kernel
theorem xo173 : xOK 173 := xM_at xk173 ba173 (n := 2) rfl bd173
theorem xk174 : xM 174 = true := by decide +kernel
theorem xo174 : xOK 174 := xM_at xk174 ba174 (n := 1) rfl bd174
theorem xk175 : xM 175 = true := by decide +kernel
theorem xo175 : xOK 175 := xM_at xk175 ba175 (n := 2) rfl bd175
theorem xk176 : xM 176 = true := by decide +kernel
theorem xo176 : xOK 176 := xM_at xk176 ba176 (n := 3) rfl bd176
theorem xk177 : xM 177 = true := by decide +kernel
theorem xo177 : xOK 177 := xM_at xk177 ba177 (n := 3) rfl bd177
theorem xk178 : xM 178 = true := by decide +kernel
theorem xo178 : xOK 178 := xM_at xk178 ba178 (n := 1) rfl bd178
theorem xk179 : xM 179 = true := by decide +kernel
theorem xo179 : xOK 179 := xM_at xk179 ba179 (n := 2) rfl bd179
theorem xk180 : xM 180 = true := by decide +kernel
theorem xo180 : xOK 180 := xM_at xk180 ba180 (n := 1) rfl bd180
theorem xk181 : xM 181 = true := by decide +kernel
theorem xo181 : xOK 181 := xM_at xk181 ba181 (n := 7) rfl bd181
theorem xk182 : xM 182 = true := by decide +kernel
theorem xo182 : xOK 182 := xM_at xk182 ba182 (n := 5) rfl bd182
theorem xk183 : xM 183 = true := by decide +kernel
theorem xo183 : xOK 183 := xM_at xk183 ba183 (n := 2) rfl bd183
theorem xk184 : xM 184 = true := by decide +kernel
theorem xo184 : xOK 184 := xM_at xk184 ba184 (n := 1) rfl bd184
theorem xk185 : xM 185 = true := by decide +kernel
theorem xo185 : xOK 185 := xM_at xk185 ba185 (n := 3) rfl bd185
theorem xk186 : xM 186 = true := by decide +kernel
theorem xo186 : xOK 186 := xM_at xk186 ba186 (n := 1) rfl bd186
theorem xk187 : xM 187 = true := by decide +kernel
theorem xo187 : xOK 187 := xM_at xk187 ba187 (n := 3) rfl bd187
theorem xk188 : xM 188 = true := by decide +kernel
theorem xo188 : xOK 188 := xM_at xk188 ba188 (n := 2) rfl bd188
theorem xk189 : xM 189 = true := by decide +kernel
theorem xo189 : xOK 189 := xM_at xk189 ba189 (n := 2) rfl bd189
theorem xk190 : xM 190 = true := by decide +kernel
theorem xo190 : xOK 190 := xM_at xk190 ba190 (n := 2) rfl bd190
theorem xk191 : xM 191 = true := by decide +kernel
theorem xo191 : xOK 191 := xM_at xk191 ba191 (n := 3) rfl bd191
theorem xk192 : xM 192 = true := by decide +kernel
theorem xo192 : xOK 192 := xM_at xk192 ba192 (n := 1) rfl bd192
theorem xk193 : xM 193 = true := by decide +kernel
theorem xo193 : xOK 193 := xM_at xk193 ba193 (n := 3) rfl bd193
theorem xk194 : xM 194 = true := by decide +kernel
theorem xo194 : xOK 194 := xM_at xk194 ba194 (n := 2) rfl bd194
theorem xk195 : xM 195 = true := by decide +kernel
theorem xo195 : xOK 195 := xM_at xk195 ba195 (n := 1) rfl bd195
theorem xk196 : xM 196 = true := by decide +kernel
theorem xo196 : xOK 196 := xM_at xk196 ba196 (n := 1) rfl bd196
theorem xk197 : xM 197 = true := by decide +kernel
theorem xo197 : xOK 197 := xM_at xk197 ba197 (n := 2) rfl bd197
theorem xk198 : xM 198 = true := by decide +kernel
theorem xo198 : xOK 198 := xM_at xk198 ba198 (n := 1) rfl bd198
theorem xk199 : xM 199 = true := by decide +kernel
theorem xo199 : xOK 199 := xM_at xk199 ba199 (n := 3) rfl bd199
theorem xk200 : xM 200 = true := by decide +kernel
theorem xo200 : xOK 200 := xM_at xk200 ba200 (n := 1) rfl bd200
theorem xk201 : xM 201 = true := by decide +kernel
theorem xo201 : xOK 201 := xM_at xk201 ba201 (n := 1) rfl bd201
theorem xk202 : xM 202 = true := by decide +kernel
theorem xo202 : xOK 202 := xM_at xk202 ba202 (n := 1) rfl bd202
theorem xk203 : xM 203 = true := by decide +kernel
theorem xo203 : xOK 203 := xM_at xk203 ba203 (n := 1) rfl bd203
theorem xk204 : xM 204 = true := by decide +kernel
theorem xo204 : xOK 204 := xM_at xk204 ba204 (n := 1) rfl bd204
theorem xk205 : xM 205 = true := by decide +kernel
theorem xo205 : xOK 205 := xM_at xk205 ba205 (n := 1) rfl bd205
theorem xk206 : xM 206 = true := by decide +kernel
theorem xo206 : xOK 206 := xM_at xk206 ba206 (n := 1) rfl bd206
theorem xk207 : xM 207 = true := by decide +kernel
theorem xo207 : xOK 207 := xM_at xk207 ba207 (n := 1) rfl bd207
theorem xk208 : xM 208 = true := by decide +kernel
theorem xo208 : xOK 208 := xM_at xk208 ba208 (n := 3) rfl bd208
theorem xk209 : xM 209 = true := by decide +kernel
theorem xo209 : xOK 209 := xM_at xk209 ba209 (n := 3) rfl bd209
theorem xk210 : xM 210 = true := by decide +kernel
theorem xo210 : xOK 210 := xM_at xk210 ba210 (n := 3) rfl bd210
theorem xk211 : xM 211 = true := by decide +kernel
theorem xo211 : xOK 211 := xM_at xk211 ba211 (n := 3) rfl bd211
theorem xk212 : xM 212 = true := by decide +kernel
theorem xo212 : xOK 212 := xM_at xk212 ba212 (n := 3) rfl bd212
theorem xk213 : xM 213 = true := by decide +kernel
theorem xo213 : xOK 213 := xM_at xk213 ba213 (n := 3) rfl bd213
theorem xk214 : xM 214 = true := by decide +kernel
theorem xo214 : xOK 214 := xM_at xk214 ba214 (n := 3) rfl bd214
theorem xk215 : xM 215 = true := by decide +kernel
theorem xo215 : xOK 215 := xM_at xk215 ba215 (n := 3) rfl bd215
theorem xk216 : xM 216 = true := by decide +kernel
theorem xo216 : xOK 216 := xM_at xk216 ba216 (n := 3) rfl bd216
theorem xk217 : xM 217 = true := by decide +kernel
theorem xo217 : xOK 217 := xM_at xk217 ba217 (n := 3) rfl bd217
theorem xk218 : xM 218 = true := by decide +kernel
theorem xo218 : xOK 218 := xM_at xk218 ba218 (n := 3) rfl bd218
theorem xk219 : xM 219 = true := by decide +kernel
theorem xo219 : xOK 219 := xM_at xk219 ba219 (n := 3) rfl bd219
theorem xk220 : xM 220 = true := by decide +kernel
theorem xo220 : xOK 220 := xM_at xk220 ba220 (n := 3) rfl bd220
theorem xk221 : xM 221 = true := by decide +kernel
theorem xo221 : xOK 221 := xM_at xk221 ba221 (n := 3) rfl bd221
theorem xk222 : xM 222 = true := by decide +kernel
theorem xo222 : xOK 222 := xM_at xk222 ba222 (n := 3) rfl bd222
theorem xk223 : xM 223 = true := by decide +kernel
theorem xo223 : xOK 223 := xM_at xk223 ba223 (n := 3) rfl bd223
theorem xk224 : xM 224 = true := by decide +kernel
theorem xo224 : xOK 224 := xM_at xk224 ba224 (n := 3) rfl bd224
theorem xk225 : xM 225 = true := by decide +kernel
theorem xo225 : xOK 225 := xM_at xk225 ba225 (n := 3) rfl bd225
theorem xk226 : xM 226 = true := by decide +kernel
theorem xo226 : xOK 226 := xM_at xk226 ba226 (n := 3) rfl bd226
theorem xk227 : xM 227 = true := by decide +kernel
theorem xo227 : xOK 227 := xM_at xk227 ba227 (n := 3) rfl bd227
theorem xk228 : xM 228 = true := by decide +kernel
theorem xo228 : xOK 228 := xM_at xk228 ba228 (n := 3) rfl bd228
theorem xk229 : xM 229 = true := by decide +kernel
theorem xo229 : xOK 229 := xM_at xk229 ba229 (n := 3) rfl bd229
theorem xk230 : xM 230 = true := by decide +kernel
theorem xo230 : xOK 230 := xM_at xk230 ba230 (n := 3) rfl bd230
theorem xk231 : xM 231 = true := by decide +kernel
theorem xo231 : xOK 231 := xM_at xk231 ba231 (n := 3) rfl bd231
theorem xk232 : xM 232 = true := by decide +kernel
theorem xo232 : xOK 232 := xM_at xk232 ba232 (n := 3) rfl bd232
theorem xk233 : xM 233 = true := by decide +kernel
theorem xo233 : xOK 233 := xM_at xk233 ba233 (n := 3) rfl bd233
theorem xk234 : xM 234 = true := by decide +kernel
theorem xo234 : xOK 234 := xM_at xk234 ba234 (n := 3) rfl bd234
theorem xk235 : xM 235 = true := by decide +kernel
theorem xo235 : xOK 235 := xM_at xk235 ba235 (n := 3) rfl bd235
theorem xk236 : xM 236 = true := by decide +kernel
theorem xo236 : xOK 236 := xM_at xk236 ba236 (n := 3) rfl bd236
theorem xk237 : xM 237 = true := by decide +kernel
theorem xo237 : xOK 237 := xM_at xk237 ba237 (n := 3) rfl bd237
theorem xk238 : xM 238 = true := by decide +kernel
theorem xo238 : xOK 238 := xM_at xk238 ba238 (n := 3) rfl bd238
theorem xk239 : xM 239 = true := by decide +kernel
theorem xo239 : xOK 239 := xM_at xk239 ba239 (n := 3) rfl bd239
theorem xk240 : xM 240 = true := by decide +kernel
theorem xo240 : xOK 240 := xM_at xk240 ba240 (n := 3) rfl bd240
theorem xk241 : xM 241 = true := by decide +kernel
theorem xo241 : xOK 241 := xM_at xk241 ba241 (n := 3) rfl bd241
theorem xk242 : xM 242 = true := by decide +kernel
theorem xo242 : xOK 242 := xM_at xk242 ba242 (n := 3) rfl bd242
theorem xk243 : xM 243 = true := by decide +kernel
theorem xo243 : xOK 243 := xM_at xk243 ba243 (n := 3) rfl bd243
theorem xk244 : xM 244 = true := by decide +kernel
theorem xo244 : xOK 244 := xM_at xk244 ba244 (n := 3) rfl bd244
theorem xk245 : xM 245 = true := by decide +kernel
theorem xo245 : xOK 245 := xM_at xk245 ba245 (n := 3) rfl bd245
theorem xk246 : xM 246 = true := by decide +kernel
theorem xo246 : xOK 246 := xM_at xk246 ba246 (n := 3) rfl bd246
theorem xk247 : xM 247 = true := by decide +kernel
theorem xo247 : xOK 247 := xM_at xk247 ba247 (n := 3) rfl bd247
theorem xk248 : xM 248 = true := by decide +kernel
theorem xo248 : xOK 248 := xM_at xk248 ba248 (n := 3) rfl bd248
theorem xk249 : xM 249 = true := by decide +kernel
theorem xo249 : xOK 249 := xM_at xk249 ba249 (n := 3) rfl bd249
theorem xk250 : xM 250 = true := by decide +kernel
theorem xo250 : xOK 250 := xM_at xk250 ba250 (n := 3) rfl bd250
theorem xk251 : xM 251 = true := by decide +kernel
theorem xo251 : xOK 251 := xM_at xk251 ba251 (n := 3) rfl bd251
theorem xk252 : xM 252 = true := by decide +kernel
theorem xo252 : xOK 252 := xM_at xk252 ba252 (n := 3) rfl bd252
theorem xk253 : xM 253 = true := by decide +kernel
theorem xo253 : xOK 253 := xM_at xk253 ba253 (n := 3) rfl bd253
theorem xk254 : xM 254 = true := by decide +kernel
theorem xo254 : xOK 254 := xM_at xk254 ba254 (n := 3) rfl bd254
theorem xk255 : xM 255 = true := by decide +kernel
theorem xo255 : xOK 255 := xM_at xk255 ba255 (n := 3) rfl bd255
theorem xk256 : xM 256 = true := by decide +kernel
theorem xo256 : xOK 256 := xM_at xk256 ba256 (n := 3) rfl bd256
theorem xk257 : xM 257 = true := by decide +kernel
theorem xo257 : xOK 257 := xM_at xk257 ba257 (n := 3) rfl bd257
theorem xk258 : xM 258 = true := by decide +kernel
theorem xo258 : xOK 258 := xM_at xk258 ba258 (n := 3) rfl bd258
theorem xk259 : xM 259 = true := by decide +kernel
theorem xo259 : xOK 259 := xM_at xk259 ba259 (n := 3) rfl bd259
theorem xk260 : xM 260 = true := by decide +kernel
theorem xo260 : xOK 260 := xM_at xk260 ba260 (n := 3) rfl bd260
theorem xk261 : xM 261 = true := by decide +kernel
theorem xo261 : xOK 261 := xM_at xk261 ba261 (n := 3) rfl bd261
theorem xk262 : xM 262 = true := by decide +kernel
theorem xo262 : xOK 262 := xM_at xk262 ba262 (n := 3) rfl bd262
theorem xk263 : xM 263 = true := by decide +kernel
theorem xo263 : xOK 263 := xM_at xk263 ba263 (n := 3) rfl bd263
theorem xk264 : xM 264 = true := by decide +kernel
theorem xo264 : xOK 264 := xM_at xk264 ba264 (n := 3) rfl bd264
theorem xk265 : xM 265 = true := by decide +kernel
theorem xo265 : xOK 265 := xM_at xk265 ba265 (n := 3) rfl bd265
theorem xk266 : xM 266 = true := by decide +kernel
theorem xo266 : xOK 266 := xM_at xk266 ba266 (n := 3) rfl bd266
theorem xk267 : xM 267 = true := by decide +kernel
theorem xo267 : xOK 267 := xM_at xk267 ba267 (n := 3) rfl bd267
theorem xk268 : xM 268 = true := by decide +kernel
theorem xo268 : xOK 268 := xM_at xk268 ba268 (n := 3) rfl bd268
theorem xk269 : xM 269 = true := by decide +kernel
theorem xo269 : xOK 269 := xM_at xk269 ba269 (n := 84) rfl bd269
theorem xk270 : xM 270 = true := by decide +kernel
theorem xo270 : xOK 270 := xM_at xk270 ba270 (n := 1) rfl bd270
theorem xk271 : xM 271 = true := by decide +kernel
theorem xo271 : xOK 271 := xM_at xk271 ba271 (n := 2) rfl bd271
theorem xk272 : xM 272 = true := by decide +kernel
theorem xo272 : xOK 272 := xM_at xk272 ba272 (n := 3) rfl bd272
theorem xk273 : xM 273 = true := by decide +kernel
theorem xo273 : xOK 273 := xM_at xk273 ba273 (n := 3) rfl bd273
theorem xk274 : xM 274 = true := by decide +kernel
theorem xo274 : xOK 274 := xM_at xk274 ba274 (n := 3) rfl bd274
theorem xk275 : xM 275 = true := by decide +kernel
theorem xo275 : xOK 275 := xM_at xk275 ba275 (n := 3) rfl bd275
theorem xk276 : xM 276 = true := by decide +kernel
theorem xo276 : xOK 276 := xM_at xk276 ba276 (n := 1) rfl bd276
theorem xk277 : xM 277 = true := by decide +kernel
theorem xo277 : xOK 277 := xM_at xk277 ba277 (n := 1) rfl bd277
theorem xk278 : xM 278 = true := by decide +kernel
theorem xo278 : xOK 278 := xM_at xk278 ba278 (n := 3) rfl bd278
theorem xk279 : xM 279 = true := by decide +kernel
theorem xo279 : xOK 279 := xM_at xk279 ba279 (n := 3) rfl bd279
theorem xk280 : xM 280 = true := by decide +kernel
theorem xo280 : xOK 280 := xM_at xk280 ba280 (n := 3) rfl bd280
theorem xk281 : xM 281 = true := by decide +kernel
theorem xo281 : xOK 281 := xM_at xk281 ba281 (n := 3) rfl bd281
theorem xk282 : xM 282 = true := by decide +kernel
theorem xo282 : xOK 282 := xM_at xk282 ba282 (n := 3) rfl bd282
theorem xk283 : xM 283 = true := by decide +kernel
theorem xo283 : xOK 283 := xM_at xk283 ba283 (n := 1) rfl bd283
theorem xk284 : xM 284 = true := by decide +kernel
theorem xo284 : xOK 284 := xM_at xk284 ba284 (n := 3) rfl bd284
theorem xk285 : xM 285 = true := by decide +kernel
theorem xo285 : xOK 285 := xM_at xk285 ba285 (n := 3) rfl bd285
theorem xk286 : xM 286 = true := by decide +kernel
theorem xo286 : xOK 286 := xM_at xk286 ba286 (n := 3) rfl bd286
theorem xk287 : xM 287 = true := by decide +kernel
theorem xo287 : xOK 287 := xM_at xk287 ba287 (n := 3) rfl bd287
theorem xo__20 : ∀ m, m < 20 → xOK m := ltA_s (ltA_s (ltA_s (ltA_s (ltA_s (ltA_s (ltA_s (ltA_s (ltA_s (ltA_s (ltA_s (ltA_s (ltA_s (ltA_s (ltA_s (ltA_s (ltA_s (ltA_s (ltA_s (ltA_s (ltA_z) (xo0)) (xo1)) (xo2)) (xo3)) (xo4)) (xo5)) (xo6)) (xo7)) (xo8)) (xo9)) (xo10)) (xo11)) (xo12)) (xo13)) (xo14)) (xo15)) (xo16)) (xo17)) (xo18)) (xo19)
theorem xo__40 : ∀ m, m < 40 → xOK m := ltA_s (ltA_s (ltA_s (ltA_s (ltA_s (ltA_s (ltA_s (ltA_s (ltA_s (ltA_s (ltA_s (ltA_s (ltA_s (ltA_s (ltA_s (ltA_s (ltA_s (ltA_s (ltA_s (ltA_s ((xo__20)) (xo20)) (xo21)) (xo22)) (xo23)) (xo24)) (xo25)) (xo26)) (xo27)) (xo28)) (xo29)) (xo30)) (xo31)) (xo32)) (xo33)) (xo34)) (xo35)) (xo36)) (xo37)) (xo38)) (xo39)
theorem xo__60 : ∀ m, m < 60 → xOK m := ltA_s (ltA_s (ltA_s (ltA_s (ltA_s (ltA_s (ltA_s (ltA_s (ltA_s (ltA_s (ltA_s (ltA_s (ltA_s (ltA_s (ltA_s (ltA_s (ltA_s (ltA_s (ltA_s (ltA_s ((xo__40)) (xo40)) (xo41)) (xo42)) (xo43)) (xo44)) (xo45)) (xo46)) (xo47)) (xo48)) (xo49)) (xo50)) (xo51)) (xo52)) (xo53)) (xo54)) (xo55)) (xo56)) (xo57)) (xo58)) (xo59)
theorem xo__80 : ∀ m, m < 80 → xOK m := ltA_s (ltA_s (ltA_s (ltA_s (ltA_s (ltA_s (ltA_s (ltA_s (ltA_s (ltA_s (ltA_s (ltA_s (ltA_s (ltA_s (ltA_s (ltA_s (ltA_s (ltA_s (ltA_s (ltA_s ((xo__60)) (xo60)) (xo61)) (xo62)) (xo63)) (xo64)) (xo65)) (xo66)) (xo67)) (xo68)) (xo69)) (xo70)) (xo71)) (xo72)) (xo73)) (xo74)) (xo75)) (xo76)) (xo77)) (xo78)) (xo79)
theorem xo__100 : ∀ m, m < 100 → xOK m := ltA_s (ltA_s (ltA_s (ltA_s (ltA_s (ltA_s (ltA_s (ltA_s (ltA_s (ltA_s (ltA_s (ltA_s (ltA_s (ltA_s (ltA_s (ltA_s (ltA_s (ltA_s (ltA_s (ltA_s ((xo__80)) (xo80)) (xo81)) (xo82)) (xo83)) (xo84)) (xo85)) (xo86)) (xo87)) (xo88)) (xo89)) (xo90)) (xo91)) (xo92)) (xo93)) (xo94)) (xo95)) (xo96)) (xo97)) (xo98)) (xo99)
theorem xo__120 : ∀ m, m < 120 → xOK m := ltA_s (ltA_s (ltA_s (ltA_s (ltA_s (ltA_s (ltA_s (ltA_s (ltA_s (ltA_s (ltA_s (ltA_s (ltA_s (ltA_s (ltA_s (ltA_s (ltA_s (ltA_s (ltA_s (ltA_s ((xo__100)) (xo100)) (xo101)) (xo102)) (xo103)) (xo104)) (xo105)) (xo106)) (xo107)) (xo108)) (xo109)) (xo110)) (xo111)) (xo112)) (xo113)) (xo114)) (xo115)) (xo116)) (xo117)) (xo118)) (xo119)
theorem xo__140 : ∀ m, m < 140 → xOK m := ltA_s (ltA_s (ltA_s (ltA_s (ltA_s (ltA_s (ltA_s (ltA_s (ltA_s (ltA_s (ltA_s (ltA_s (ltA_s (ltA_s (ltA_s (ltA_s (ltA_s (ltA_s (ltA_s (ltA_s ((xo__120)) (xo120)) (xo121)) (xo122)) (xo123)) (xo124)) (xo125)) (xo126)) (xo127)) (xo128)) (xo129)) (xo130)) (xo131)) (xo132)) (xo133)) (xo134)) (xo135)) (xo136)) (xo137)) (xo138)) (xo139)
theorem xo__160 : ∀ m, m < 160 → xOK m := ltA_s (ltA_s (ltA_s (ltA_s (ltA_s (ltA_s (ltA_s (ltA_s (ltA_s (ltA_s (ltA_s (ltA_s (ltA_s (ltA_s (ltA_s (ltA_s (ltA_s (ltA_s (ltA_s (ltA_s ((xo__140)) (xo140)) (xo141)) (xo142)) (xo143)) (xo144)) (xo145)) (xo146)) (xo147)) (xo148)) (xo149)) (xo150)) (xo151)) (xo152)) (xo153)) (xo154)) (xo155)) (xo156)) (xo157)) (xo158)) (xo159)
theorem xo__180 : ∀ m, m < 180 → xOK m := ltA_s (ltA_s (ltA_s (ltA_s (ltA_s (ltA_s (ltA_s (ltA_s (ltA_s (ltA_s (ltA_s (ltA_s (ltA_s (ltA_s (ltA_s (ltA_s (ltA_s (ltA_s (ltA_s (ltA_s ((xo__160)) (xo160)) (xo161)) (xo162)) (xo163)) (xo164)) (xo165)) (xo166)) (xo167)) (xo168)) (xo169)) (xo170)) (xo171)) (xo172)) (xo173)) (xo174)) (xo175)) (xo176)) (xo177)) (xo178)) (xo179)
theorem xo__200 : ∀ m, m < 200 → xOK m := ltA_s (ltA_s (ltA_s (ltA_s (ltA_s (ltA_s (ltA_s (ltA_s (ltA_s (ltA_s (ltA_s (ltA_s (ltA_s (ltA_s (ltA_s (ltA_s (ltA_s (ltA_s (ltA_s (ltA_s ((xo__180)) (xo180)) (xo181)) (xo182)) (xo183)) (xo184)) (xo185)) (xo186)) (xo187)) (xo188)) (xo189)) (xo190)) (xo191)) (xo192)) (xo193)) (xo194)) (xo195)) (xo196)) (xo197)) (xo198)) (xo199)
theorem xo__220 : ∀ m, m < 220 → xOK m := ltA_s (ltA_s (ltA_s (ltA_s (ltA_s (ltA_s (ltA_s (ltA_s (ltA_s (ltA_s (ltA_s (ltA_s (ltA_s (ltA_s (ltA_s (ltA_s (ltA_s (ltA_s (ltA_s (ltA_s ((xo__200)) (xo200)) (xo201)) (xo202)) (xo203)) (xo204)) (xo205)) (xo206)) (xo207)) (xo208)) (xo209)) (xo210)) (xo211)) (xo212)) (xo213)) (xo214)) (xo215)) (xo216)) (xo217)) (xo218)) (xo219)
theorem xo__240 : ∀ m, m < 240 → xOK m := ltA_s (ltA_s (ltA_s (ltA_s (ltA_s (ltA_s (ltA_s (ltA_s (ltA_s (ltA_s (ltA_s (ltA_s (ltA_s (ltA_s (ltA_s (ltA_s (ltA_s (ltA_s (ltA_s (ltA_s ((xo__220)) (xo220)) (xo221)) (xo222)) (xo223)) (xo224)) (xo225)) (xo226)) (xo227)) (xo228)) (xo229)) (xo230)) (xo231)) (xo232)) (xo233)) (xo234)) (xo235)) (xo236)) (xo237)) (xo238)) (xo239)
theorem xo__260 : ∀ m, m < 260 → xOK m := ltA_s (ltA_s (ltA_s (ltA_s (ltA_s (ltA_s (ltA_s (ltA_s (ltA_s (ltA_s (ltA_s (ltA_s (ltA_s (ltA_s (ltA_s (ltA_s (ltA_s (ltA_s (ltA_s (ltA_s ((xo__240)) (xo240)) (xo241)) (xo242)) (xo243)) (xo244)) (xo245)) (xo246)) (xo247)) (xo248)) (xo249)) (xo250)) (xo251)) (xo252)) (xo253)) (xo254)) (xo255)) (xo256)) (xo257)) (xo258)) (xo259)
theorem xo__280 : ∀ m, m < 280 → xOK m := ltA_s (ltA_s (ltA_s (ltA_s (ltA_s (ltA_s (ltA_s (ltA_s (ltA_s (ltA_s (ltA_s (ltA_s (ltA_s (ltA_s (ltA_s (ltA_s (ltA_s (ltA_s (ltA_s (ltA_s ((xo__260)) (xo260)) (xo261)) (xo262)) (xo263)) (xo264)) (xo265)) (xo266)) (xo267)) (xo268)) (xo269)) (xo270)) (xo271)) (xo272)) (xo273)) (xo274)) (xo275)) (xo276)) (xo277)) (xo278)) (xo279)
theorem xo__288 : ∀ m, m < 288 → xOK m := ltA_s (ltA_s (ltA_s (ltA_s (ltA_s (ltA_s (ltA_s (ltA_s ((xo__280)) (xo280)) (xo281)) (xo282)) (xo283)) (xo284)) (xo285)) (xo286)) (xo287)
theorem xo_all {m : Nat} (h : m < 288) : xOK m := xo__288 m h
/-! more of the tables -/
abbrev yM (m : Nat) : MethodName := (mInf m).1
abbrev cM (m : Nat) : ByteArray := (mInf m).2.1
abbrev oM (m : Nat) : Nat := (mInf m).2.2.1
abbrev lM (m : Nat) : Nat := (mInf m).2.2.2.1
abbrev rM (m : Nat) : Option FieldType := (mInf m).2.2.2.2.1
abbrev sM (m : Nat) : Bool := (mInf m).2.2.2.2.2.1
abbrev hM (m : Nat) : List (Nat × Nat × Nat × Nat) := (mInf m).2.2.2.2.2.2.2.2.2.2
theorem p0k : (List.range 288).all (fun m => (bp m).2.1 0 == 0) = true := by decide +kernel
theorem p0_all {m : Nat} (h : m < 288) : (bp m).2.1 0 = 0 := by
  have := List.all_eq_true.mp p0k m (List.mem_range.mpr h)
  simpa using this
/-- the classes of which objects are made -/
def mdC (ci : Nat) : Bool := !([2, 13].contains ci)
theorem clsk : (List.range 15).all (fun ci => !mdC ci || decide ((uQ ci).1 = CN ci)) = true := by decide +kernel
theorem cls_n {ci : Nat} (h : ci < 15) (h0 : mdC ci = true) : (uQ ci).1 = CN ci := by
  have := List.all_eq_true.mp clsk ci (List.mem_range.mpr h)
  simp only [Bool.or_eq_true, Bool.not_eq_true', decide_eq_true_eq] at this
  exact this.resolve_left (fun z => by rw [h0] at z; cases z)
theorem k05k : (List.range 26).all (fun o => (LMt o).all (fun x => (x.2.2.1 != 5 || oM x.2.1 == 18) && (x.2.2.1 != 0 || mdC (oM x.2.1) && decide (oM x.2.1 < 15)) && (x.2.2.1 != 8 || oM x.2.1 == 20) && (x.2.2.1 != 9 || oM x.2.1 == 0) && (x.2.2.1 != 10 || oM x.2.1 == 20) && (x.2.2.1 != 11 || oM x.2.1 == 11))) = true := by decide +kernel
theorem k05 {o : Nat} {x : Nat × Nat × Nat × Nat × Nat} (h : x ∈ LMt o) : (x.2.2.1 = 5 → oM x.2.1 = 18) ∧ (x.2.2.1 = 0 → mdC (oM x.2.1) = true ∧ oM x.2.1 < 15) ∧ (x.2.2.1 = 8 → oM x.2.1 = 20) ∧ (x.2.2.1 = 9 → oM x.2.1 = 0) ∧ (x.2.2.1 = 10 → oM x.2.1 = 20) ∧ (x.2.2.1 = 11 → oM x.2.1 = 11) := by
  by_cases ho : o < 26
  · have := List.all_eq_true.mp (List.all_eq_true.mp k05k o (List.mem_range.mpr ho)) x h
    simp only [Bool.and_eq_true, Bool.or_eq_true, bne_iff_ne, beq_iff_eq, decide_eq_true_eq] at this
    obtain ⟨⟨⟨⟨⟨h1, h2⟩, h3⟩, h4⟩, h5⟩, h6⟩ := this
    exact ⟨fun q => h1.resolve_left (fun z => z q), fun q => h2.resolve_left (fun z => z q), fun q => h3.resolve_left (fun z => z q), fun q => h4.resolve_left (fun z => z q), fun q => h5.resolve_left (fun z => z q), fun q => h6.resolve_left (fun z => z q)⟩
  · rw [(tab_none ho).2.2.2.2.2.2.2.2.1] at h
    cases h
/-! throws -/
def nmX : List String := ["java/lang/RuntimeException", "java/lang/Exception"]
def inL (w : Jvm.Cond) : Bool := lw_tbl.any (fun v => decide (v = w))
def inG (w : Jvm.Cond) : Bool := goodWord w && inL w
theorem inG_ok {w : Jvm.Cond} (h : inG w = true) : w ∈ GT := by
  unfold inG at h
  simp only [Bool.and_eq_true] at h
  obtain ⟨x, h1, h2⟩ := List.any_eq_true.mp h.2
  rw [of_decide_eq_true h2] at h1
  exact List.mem_append_left _ (List.mem_filter.mpr ⟨h1, h.1⟩)
def xcOK (o ik ic e : Nat) : Bool := decide (e < 3) && Bundle.fit (excN e) && inG (.classLink (CN o) ik (excN e)) && inG (.initialized (excN e)) && (vx_atS (CN o) ic (excN e) nmX).all (fun w => vx_ot w && (decide (w = .castable (excN e) (excN e)) || dcN.any (fun n => decide (w = .declares (dcX n))) || inG w))
theorem xc0 : xcOK 9 56 60 0 = true := by decide +kernel
theorem xc1 : xcOK 9 67 71 1 = true := by decide +kernel
theorem xc2 : xcOK 9 106 110 2 = true := by decide +kernel
theorem nm0 : nmX.all (fun n => Bundle.fit n) = true := by decide +kernel
theorem xck : (List.range 26).all (fun o => (LXc o).all (fun x => (o == 9) && ((x.1 == 56 && x.2.2.1 == 60 && x.2.2.2.1 == 0) || (x.1 == 67 && x.2.2.1 == 71 && x.2.2.2.1 == 1) || (x.1 == 106 && x.2.2.1 == 110 && x.2.2.2.1 == 2)))) = true := by decide +kernel
theorem lxc_none {o : Nat} (ho : ¬ o < 26) : LXc o = [] := by
  match o, ho with
  | 0, h => exact absurd (by decide) h
  | 1, h => exact absurd (by decide) h
  | 2, h => exact absurd (by decide) h
  | 3, h => exact absurd (by decide) h
  | 4, h => exact absurd (by decide) h
  | 5, h => exact absurd (by decide) h
  | 6, h => exact absurd (by decide) h
  | 7, h => exact absurd (by decide) h
  | 8, h => exact absurd (by decide) h
  | 9, h => exact absurd (by decide) h
  | 10, h => exact absurd (by decide) h
  | 11, h => exact absurd (by decide) h
  | 12, h => exact absurd (by decide) h
  | 13, h => exact absurd (by decide) h
  | 14, h => exact absurd (by decide) h
  | 15, h => exact absurd (by decide) h
  | 16, h => exact absurd (by decide) h
  | 17, h => exact absurd (by decide) h
  | 18, h => exact absurd (by decide) h
  | 19, h => exact absurd (by decide) h
  | 20, h => exact absurd (by decide) h
  | 21, h => exact absurd (by decide) h
  | 22, h => exact absurd (by decide) h
  | 23, h => exact absurd (by decide) h
  | 24, h => exact absurd (by decide) h
  | 25, h => exact absurd (by decide) h
  | n + 26, _ => exact rfl
theorem xc_at {o : Nat} {x : Nat × Nat × Nat × Nat × Nat × String} (h : x ∈ LXc o) : xcOK o x.1 x.2.2.1 x.2.2.2.1 = true := by
  by_cases ho : o < 26
  · have := List.all_eq_true.mp (List.all_eq_true.mp xck o (List.mem_range.mpr ho)) x h
    simp only [Bool.and_eq_true, Bool.or_eq_true, beq_iff_eq] at this
    obtain ⟨rfl, (⟨⟨h1, h2⟩, h3⟩ | ⟨⟨h1, h2⟩, h3⟩) | ⟨⟨h1, h2⟩, h3⟩⟩ := this
    · rw [h1, h2, h3]; exact xc0
    · rw [h1, h2, h3]; exact xc1
    · rw [h1, h2, h3]; exact xc2
  · rw [lxc_none ho] at h
    cases h
