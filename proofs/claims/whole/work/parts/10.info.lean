/-! ===== the methods: names, bytes, locals, what they return, parameters, class ===== -/
theorem xm1 {w : Cond} (i : Nat) (h : tables_1_1[i]? = some w) (h2 : xgw w = true) : w ∈ xws := by
  have h := List.mem_of_getElem? h
  exact List.mem_filter.mpr ⟨(List.mem_append_right _ (List.mem_append_left _ h) : w ∈ lw_tbl), h2⟩
theorem xm2 {w : Cond} (i : Nat) (h : tables_1_2[i]? = some w) (h2 : xgw w = true) : w ∈ xws := by
  have h := List.mem_of_getElem? h
  exact List.mem_filter.mpr ⟨(List.mem_append_right _ (List.mem_append_right _ (List.mem_append_left _ h)) : w ∈ lw_tbl), h2⟩
theorem xm3 {w : Cond} (i : Nat) (h : tables_1_3[i]? = some w) (h2 : xgw w = true) : w ∈ xws := by
  have h := List.mem_of_getElem? h
  exact List.mem_filter.mpr ⟨(List.mem_append_right _ (List.mem_append_right _ (List.mem_append_right _ (List.mem_append_left _ h))) : w ∈ lw_tbl), h2⟩
theorem xm4 {w : Cond} (i : Nat) (h : tables_1_4[i]? = some w) (h2 : xgw w = true) : w ∈ xws := by
  have h := List.mem_of_getElem? h
  exact List.mem_filter.mpr ⟨(List.mem_append_right _ (List.mem_append_right _ (List.mem_append_right _ (List.mem_append_right _ (List.mem_append_left _ h)))) : w ∈ lw_tbl), h2⟩
theorem xm5 {w : Cond} (i : Nat) (h : tables_1_5[i]? = some w) (h2 : xgw w = true) : w ∈ xws := by
  have h := List.mem_of_getElem? h
  exact List.mem_filter.mpr ⟨(List.mem_append_right _ (List.mem_append_right _ (List.mem_append_right _ (List.mem_append_right _ (List.mem_append_right _ (List.mem_append_left _ h))))) : w ∈ lw_tbl), h2⟩
theorem xm6 {w : Cond} (i : Nat) (h : tables_1_6[i]? = some w) (h2 : xgw w = true) : w ∈ xws := by
  have h := List.mem_of_getElem? h
  exact List.mem_filter.mpr ⟨(List.mem_append_right _ (List.mem_append_right _ (List.mem_append_right _ (List.mem_append_right _ (List.mem_append_right _ (List.mem_append_right _ (List.mem_append_left _ h)))))) : w ∈ lw_tbl), h2⟩
theorem xm7 {w : Cond} (i : Nat) (h : tables_1_7[i]? = some w) (h2 : xgw w = true) : w ∈ xws := by
  have h := List.mem_of_getElem? h
  exact List.mem_filter.mpr ⟨(List.mem_append_right _ (List.mem_append_right _ (List.mem_append_right _ (List.mem_append_right _ (List.mem_append_right _ (List.mem_append_right _ (List.mem_append_right _ (List.mem_append_left _ h))))))) : w ∈ lw_tbl), h2⟩
theorem xm8 {w : Cond} (i : Nat) (h : tables_1_8[i]? = some w) (h2 : xgw w = true) : w ∈ xws := by
  have h := List.mem_of_getElem? h
  exact List.mem_filter.mpr ⟨(List.mem_append_right _ (List.mem_append_right _ (List.mem_append_right _ (List.mem_append_right _ (List.mem_append_right _ (List.mem_append_right _ (List.mem_append_right _ (List.mem_append_right _ (h)))))))) : w ∈ lw_tbl), h2⟩
theorem xmP {w : Cond} (i : Nat) (h : (k2_sels lw_privs)[i]? = some w) (h2 : xgw w = true) : w ∈ xws := List.mem_filter.mpr ⟨List.mem_append_left _ (List.mem_of_getElem? h), h2⟩
def xYl : List xInf := [(yJ6_bitCount_0f7a4, cJ6_bitCount_0f7a4, 1, some .int, 1, 50), (yJ6_numberOfTrailingZeros_0f7a4, cJ6_numberOfTrailingZeros_0f7a4, 2, some .int, 1, 50), (yJ0_indexOf_0f7a4, cJ0_indexOf_0f7a4, 2, some .int, 1, 20), (yJ0_indexOf_7cf53, cJ0_indexOf_7cf53, 3, some .int, 2, 20), (yJ0_isLatin1_aae02, cJ0_isLatin1_aae02, 1, some .boolean, 0, 20), (yJ1_indexOf_4cfef, cJ1_indexOf_4cfef, 4, some .int, 4, 50), (yJ1_canEncode_9a6ad, cJ1_canEncode_9a6ad, 1, some .boolean, 1, 50), (yJ1_indexOfChar_4cfef, cJ1_indexOfChar_4cfef, 6, some .int, 4, 50), (yX0_clear, cX0_clear, 2, none, 0, 0), (yX0_isWhole, cX0_isWhole, 2, some .boolean, 0, 0), (yX0_findFriends, cX0_findFriends, 3, none, 0, 0), (yX0_findAlike, cX0_findAlike, 4, none, 0, 0), (yX0_partWith, cX0_partWith, 6, some .int, 2, 0), (yX0_partsOf, cX0_partsOf, 5, some .int, 1, 0), (yX1_read, cX1_read, 5, some .int, 2, 1), (yX1_readClause, cX1_readClause, 4, some .boolean, 2, 1), (yX1_readItems, cX1_readItems, 11, some .boolean, 6, 1), (yX2_begin, cX2_begin, 3, none, 1, 2), (yX2_dawn, cX2_dawn, 1, none, 0, 2), (yX2_silence, cX2_silence, 2, none, 0, 2), (yX2_become, cX2_become, 3, none, 1, 2), (yX3_add, cX3_add, 4, some .boolean, 3, 3), (yX3_letterOf, cX3_letterOf, 2, some .int, 2, 3), (yX3_canBe, cX3_canBe, 3, some .boolean, 1, 3), (yX3_fitting, cX3_fitting, 3, some .int, 0, 3), (yX3_fittingAt, cX3_fittingAt, 4, some .int, 1, 3), (yX3_look, cX3_look, 7, some .int, 0, 3), (yX3_fittingWith, cX3_fittingWith, 5, some .int, 2, 3), (yX4_read, cX4_read, 4, some .int, 1, 4), (yX4_put, cX4_put, 2, some .boolean, 1, 4), (yX4_readClause, cX4_readClause, 2, some .boolean, 1, 4), (yX4_isConditionAhead, cX4_isConditionAhead, 6, some .boolean, 1, 4), (yX4_isComparison, cX4_isComparison, 1, some .boolean, 1, 4), (yX4_readCondition, cX4_readCondition, 5, some .boolean, 2, 4), (yX4_readTruth, cX4_readTruth, 5, some .boolean, 2, 4), (yX4_readUnit, cX4_readUnit, 4, some .boolean, 2, 4), (yX4_readSum, cX4_readSum, 6, some .boolean, 2, 4), (yX4_readTerm, cX4_readTerm, 6, some .boolean, 2, 4), (yX4_readAtom, cX4_readAtom, 5, some .boolean, 2, 4), (yX5_add, cX5_add, 4, some .int, 2, 5), (yX5_worth, cX5_worth, 11, some .int, 6, 5), (yX5_reckon, cX5_reckon, 4, none, 1, 5), (yX5_joined, cX5_joined, 3, some .long, 3, 5), (yX5_bounded, cX5_bounded, 2, some .int, 1, 5), (yX5_push, cX5_push, 2, none, 1, 5), (yX5_pop, cX5_pop, 1, some .int, 0, 5), (yX6_standing, cX6_standing, 8, some .int, 5, 6), (yX6_passDay, cX6_passDay, 8, none, 5, 6), (yX6_add, cX6_add, 3, none, 2, 6), (yX7_clear, cX7_clear, 1, none, 0, 7), (yX7_remember, cX7_remember, 2, none, 1, 7), (yX7_takeBack, cX7_takeBack, 2, some .boolean, 1, 7), (yX7_write, cX7_write, 6, none, 4, 7), (yX7_read, cX7_read, 5, some .int, 3, 7), (yX7_paint, cX7_paint, 2, none, 1, 7), (yX7_showImage, cX7_showImage, 2, some .boolean, 1, 7), (yX7_copyLog, cX7_copyLog, 4, none, 2, 7), (yX8_findKeep, cX8_findKeep, 4, some .boolean, 2, 8), (yX8_findLosses, cX8_findLosses, 4, none, 2, 8), (yX8_findShouters, cX8_findShouters, 3, none, 1, 8), (yX8_lay, cX8_lay, 7, none, 3, 8), (yX8_change, cX8_change, 5, none, 4, 8), (yX8_hasHope, cX8_hasHope, 5, some .boolean, 2, 8), (yX8_isKept, cX8_isKept, 6, some .boolean, 1, 8), (yX8_writeDigits, cX8_writeDigits, 2, none, 0, 8), (yX8_findRing, cX8_findRing, 4, some .int, 2, 8), (yX8_goRound, cX8_goRound, 8, some .int, 4, 8), (yX8_findPrice, cX8_findPrice, 6, some .boolean, 2, 8), (yX8_priceOf, cX8_priceOf, 8, none, 4, 8), (yX9_bytesIn, cX9_bytesIn, 3, some .int, 1, 9), (yX9_add, cX9_add, 4, none, 1, 9), (yX9_sign, cX9_sign, 2, some .int, 0, 9), (yX9_takes, cX9_takes, 3, some .boolean, 1, 9), (yX9_number, cX9_number, 7, some .int, 3, 9), (yX10_isName, cX10_isName, 2, some .boolean, 1, 10), (yX10_stands, cX10_stands, 2, some .boolean, 1, 10), (yX10_standing, cX10_standing, 3, some .int, 0, 10), (yX10_hasShouted, cX10_hasShouted, 2, some .boolean, 1, 10), (yX10_shouts, cX10_shouts, 3, some .int, 0, 10), (yX10_shoutsIn, cX10_shoutsIn, 4, some .int, 1, 10), (yX10_voice, cX10_voice, 2, some .int, 1, 10), (yX10_wage, cX10_wage, 3, some .int, 2, 10), (yX10_heard, cX10_heard, 3, some .int, 0, 10), (yX10_heardFor, cX10_heardFor, 5, some .int, 2, 10), (yX10_gets, cX10_gets, 5, some .int, 2, 10), (yX10_loss, cX10_loss, 8, some .int, 4, 10), (yX10_lossNow, cX10_lossNow, 3, some .int, 2, 10), (yX10_held, cX10_held, 2, some .int, 1, 10), (yX10_depthBehind, cX10_depthBehind, 4, some .int, 2, 10), (yX10_passEvening, cX10_passEvening, 6, none, 1, 10), (yX10_hoursNeeded, cX10_hoursNeeded, 6, some .int, 0, 10), (yX10_againstRival, cX10_againstRival, 4, some .int, 3, 10), (yX10_isRest, cX10_isRest, 6, some .boolean, 3, 10), (yX11_feed, cX11_feed, 7, some .int, 5, 11), (yX11_end, cX11_end, 2, some .boolean, 1, 11), (yX11_fault, cX11_fault, 2, some .int, 1, 11), (yX11_text, cX11_text, 2, some .int, 1, 11), (yX11_beginCity, cX11_beginCity, 1, none, 0, 11), (yX11_square, cX11_square, 2, some .int, 1, 11), (yX11_name, cX11_name, 4, some .int, 2, 11), (yX11_law, cX11_law, 2, some .boolean, 1, 11), (yX11_tied, cX11_tied, 3, some .int, 2, 11), (yX11_shout, cX11_shout, 5, some .int, 3, 11), (yX11_fog, cX11_fog, 2, some .boolean, 1, 11), (yX11_hoarse, cX11_hoarse, 2, some .boolean, 1, 11), (yX11_evening, cX11_evening, 3, some .int, 1, 11), (yX11_cannotPass, cX11_cannotPass, 2, some .boolean, 1, 11), (yX11_fogs, cX11_fogs, 2, some .boolean, 1, 11), (yX11_colds, cX11_colds, 2, some .boolean, 1, 11), (yX11_centuries, cX11_centuries, 5, some .int, 2, 11), (yX11_drawWeather, cX11_drawWeather, 2, none, 0, 11), (yX11_drawShouts, cX11_drawShouts, 4, none, 0, 11), (yX11_draw, cX11_draw, 2, some .int, 1, 11), (yX11_undo, cX11_undo, 1, some .int, 0, 11), (yX11_log, cX11_log, 3, some .int, 2, 11), (yX11_alone, cX11_alone, 5, some .int, 1, 11), (yX11_keep, cX11_keep, 3, some .int, 2, 11), (yX11_ring, cX11_ring, 2, some .int, 1, 11), (yX11_price, cX11_price, 3, some .int, 2, 11), (yX11_packed, cX11_packed, 1, some .int, 0, 11), (yX11_weak, cX11_weak, 4, some .int, 0, 11), (yX11_parts, cX11_parts, 1, some .int, 0, 11), (yX11_bridges, cX11_bridges, 5, some .int, 0, 11), (yX11_bond, cX11_bond, 8, some .int, 0, 11), (yX11_dent, cX11_dent, 4, some .int, 3, 11), (yX11_fits, cX11_fits, 2, some .int, 1, 11), (yX11_best, cX11_best, 1, some .int, 0, 11), (yX11_rival, cX11_rival, 4, some .int, 3, 11), (yX11_rests, cX11_rests, 7, some .int, 2, 11), (yX11_odds, cX11_odds, 5, some .int, 4, 11), (yX11_need, cX11_need, 2, some .int, 1, 11), (yX11_sharpest, cX11_sharpest, 3, some .int, 0, 11), (yX11_faintest, cX11_faintest, 3, some .int, 0, 11), (yX11_richest, cX11_richest, 3, some .int, 0, 11), (yX11_friends, cX11_friends, 2, some .int, 1, 11), (yX11_helped, cX11_helped, 4, some .int, 0, 11), (yX11_doomed, cX11_doomed, 4, some .int, 0, 11), (yX11_image, cX11_image, 1, some .int, 0, 11), (yX11_back, cX11_back, 1, some .int, 0, 11), (yX11_count, cX11_count, 2, some .int, 1, 11), (yX11_hasNoCity, cX11_hasNoCity, 1, some .boolean, 0, 11), (yX11_canShout, cX11_canShout, 2, some .boolean, 1, 11), (yX11_isHour, cX11_isHour, 2, some .boolean, 1, 11), (yX11_isOutside, cX11_isOutside, 3, some .boolean, 3, 11), (yX11_has, cX11_has, 2, some .boolean, 2, 11), (yX11_lowest, cX11_lowest, 2, some .int, 1, 11), (yX12_in, cX12_in, 3, some .boolean, 3, 12), (yX12_has, cX12_has, 2, some .boolean, 2, 12), (yX12_thrown, cX12_thrown, 1, some .int, 0, 12), (yX12_byteOf, cX12_byteOf, 7, some .int, 6, 12), (yX12_feed, cX12_feed, 9, some .int, 5, 12), (yX12_end, cX12_end, 2, some .boolean, 1, 12), (yX12_here, cX12_here, 1, some .int, 0, 12), (yX12_look, cX12_look, 1, some .int, 0, 12), (yX12_bad, cX12_bad, 1, none, 0, 12), (yX12_isDigit, cX12_isDigit, 1, some .boolean, 1, 12), (yX12_put, cX12_put, 3, none, 2, 12), (yX12_letterOf, cX12_letterOf, 1, some .int, 1, 12), (yX12_opens, cX12_opens, 1, none, 0, 12), (yX12_closes, cX12_closes, 2, none, 1, 12), (yX12_plainNumber, cX12_plainNumber, 3, some .int, 0, 12), (yX12_atom, cX12_atom, 2, none, 0, 12), (yX12_term, cX12_term, 2, none, 0, 12), (yX12_sum, cX12_sum, 2, none, 0, 12), (yX12_isSign, cX12_isSign, 1, some .boolean, 1, 12), (yX12_compare, cX12_compare, 2, none, 0, 12), (yX12_unit, cX12_unit, 2, none, 0, 12), (yX12_goOnAnd, cX12_goOnAnd, 1, none, 0, 12), (yX12_goOnOr, cX12_goOnOr, 1, none, 0, 12), (yX12_condition, cX12_condition, 1, none, 0, 12), (yX12_clause, cX12_clause, 3, none, 0, 12), (yX12_open, cX12_open, 2, none, 1, 12), (yX12_atEnd, cX12_atEnd, 1, some .int, 0, 12), (yX12_readLaw, cX12_readLaw, 2, some .int, 1, 12), (yX12_bounded, cX12_bounded, 2, some .int, 1, 12), (yX12_worked, cX12_worked, 5, some .int, 3, 12), (yX12_workOut, cX12_workOut, 6, some .int, 3, 12), (yX12_worthOf, cX12_worthOf, 3, some .int, 1, 12), (yX12_number, cX12_number, 4, some .int, 2, 12), (yX12_itemOf, cX12_itemOf, 2, some .int, 2, 12), (yX12_lowest, cX12_lowest, 2, some .int, 2, 12), (yX12_highest, cX12_highest, 2, some .int, 2, 12), (yX12_usual, cX12_usual, 2, some .int, 2, 12), (yX12_items, cX12_items, 7, none, 4, 12), (yX12_isWhole, cX12_isWhole, 3, some .boolean, 0, 12), (yX12_readCity, cX12_readCity, 4, some .int, 0, 12), (yX12_fault, cX12_fault, 2, some .int, 1, 12), (yX12_takeCity, cX12_takeCity, 2, some .int, 0, 12), (yX12_hush, cX12_hush, 2, none, 0, 12), (yX12_text, cX12_text, 2, some .int, 1, 12), (yX12_isName, cX12_isName, 2, some .boolean, 1, 12), (yX12_stands, cX12_stands, 2, some .boolean, 1, 12), (yX12_standing, cX12_standing, 3, some .int, 0, 12), (yX12_of, cX12_of, 3, some .int, 2, 12), (yX12_areTied, cX12_areTied, 3, some .boolean, 2, 12), (yX12_areLike, cX12_areLike, 3, some .boolean, 2, 12), (yX12_voiceOf, cX12_voiceOf, 2, some .int, 1, 12), (yX12_costOf, cX12_costOf, 3, some .int, 2, 12), (yX12_inHour, cX12_inHour, 4, some .int, 1, 12), (yX12_isHeard, cX12_isHeard, 2, some .boolean, 1, 12), (yX12_shoutsOf, cX12_shoutsOf, 4, some .int, 1, 12), (yX12_heardMany, cX12_heardMany, 3, some .int, 0, 12), (yX12_gain, cX12_gain, 4, some .int, 1, 12), (yX12_lossBy, cX12_lossBy, 6, some .int, 4, 12), (yX12_lossNow, cX12_lossNow, 2, some .int, 1, 12), (yX12_heldIn, cX12_heldIn, 2, some .int, 1, 12), (yX12_square, cX12_square, 2, some .int, 1, 12), (yX12_name, cX12_name, 3, some .int, 2, 12), (yX12_law, cX12_law, 2, some .boolean, 1, 12), (yX12_tied, cX12_tied, 3, some .int, 2, 12), (yX12_keepRow, cX12_keepRow, 2, none, 0, 12), (yX12_canShout, cX12_canShout, 2, some .boolean, 1, 12), (yX12_shoutNow, cX12_shoutNow, 4, none, 3, 12), (yX12_shout, cX12_shout, 4, some .int, 3, 12), (yX12_fog, cX12_fog, 2, some .boolean, 1, 12), (yX12_hoarse, cX12_hoarse, 2, some .boolean, 1, 12), (yX12_sumOf, cX12_sumOf, 4, some .int, 1, 12), (yX12_layThen, cX12_layThen, 2, none, 0, 12), (yX12_dusk, cX12_dusk, 4, none, 0, 12), (yX12_areDays, cX12_areDays, 2, some .boolean, 1, 12), (yX12_evening, cX12_evening, 3, some .int, 1, 12), (yX12_fogs, cX12_fogs, 2, some .boolean, 1, 12), (yX12_colds, cX12_colds, 2, some .boolean, 1, 12), (yX12_draw, cX12_draw, 2, some .int, 1, 12), (yX12_lowestOf, cX12_lowestOf, 1, some .int, 1, 12), (yX12_drawDay, cX12_drawDay, 3, none, 0, 12), (yX12_centuries, cX12_centuries, 5, some .int, 2, 12), (yX12_undo, cX12_undo, 2, some .int, 0, 12), (yX12_log, cX12_log, 3, some .int, 2, 12), (yX12_alone, cX12_alone, 4, some .int, 1, 12), (yX12_isKept, cX12_isKept, 8, some .boolean, 1, 12), (yX12_isShouted, cX12_isShouted, 3, some .boolean, 1, 12), (yX12_tryKeep, cX12_tryKeep, 7, none, 5, 12), (yX12_isSome, cX12_isSome, 2, some .boolean, 1, 12), (yX12_keep, cX12_keep, 3, some .int, 2, 12), (yX12_isEnough, cX12_isEnough, 3, some .boolean, 2, 12), (yX12_ringFrom, cX12_ringFrom, 7, some .int, 4, 12), (yX12_ring, cX12_ring, 3, some .int, 1, 12), (yX12_price, cX12_price, 11, some .int, 2, 12), (yX12_fitsIn, cX12_fitsIn, 4, some .boolean, 2, 12), (yX12_canPack, cX12_canPack, 6, some .boolean, 2, 12), (yX12_packed, cX12_packed, 2, some .int, 0, 12), (yX12_weak, cX12_weak, 4, some .int, 0, 12), (yX12_partOf, cX12_partOf, 6, some .int, 2, 12), (yX12_partsOf, cX12_partsOf, 4, some .int, 1, 12), (yX12_parts, cX12_parts, 1, some .int, 0, 12), (yX12_bridges, cX12_bridges, 4, some .int, 0, 12), (yX12_bond, cX12_bond, 8, some .int, 0, 12), (yX12_dent, cX12_dent, 4, some .int, 3, 12), (yX12_letterAt, cX12_letterAt, 2, some .int, 2, 12), (yX12_isFound, cX12_isFound, 4, some .boolean, 1, 12), (yX12_fits, cX12_fits, 4, some .int, 1, 12), (yX12_best, cX12_best, 7, some .int, 0, 12), (yX12_rivalOf, cX12_rivalOf, 5, some .int, 3, 12), (yX12_isHour, cX12_isHour, 2, some .boolean, 1, 12), (yX12_rival, cX12_rival, 4, some .int, 3, 12), (yX12_isRest, cX12_isRest, 6, some .boolean, 3, 12), (yX12_rests, cX12_rests, 6, some .int, 2, 12), (yX12_odds, cX12_odds, 9, some .int, 4, 12), (yX12_need, cX12_need, 2, some .int, 1, 12), (yX12_extreme, cX12_extreme, 7, some .int, 3, 12), (yX12_sharpest, cX12_sharpest, 1, some .int, 0, 12), (yX12_faintest, cX12_faintest, 1, some .int, 0, 12), (yX12_richest, cX12_richest, 1, some .int, 0, 12), (yX12_friends, cX12_friends, 2, some .int, 1, 12), (yX12_helped, cX12_helped, 3, some .int, 0, 12), (yX12_doomed, cX12_doomed, 3, some .int, 0, 12), (yX12_image, cX12_image, 2, some .int, 0, 12), (yX12_back, cX12_back, 2, some .int, 0, 12), (yX12_shoutsToday, cX12_shoutsToday, 3, some .int, 0, 12), (yX12_count, cX12_count, 2, some .int, 1, 12), (yJ0_length_8abf5, cJ0_length_8abf5, 1, some .int, 0, 20), (yJ0_coder_7d493, cJ0_coder_7d493, 1, some .byte, 0, 20)]
def xY (y : Nat) : xInf := match xnth xYl y with
  | some i => i
  | none => (yJ1_indexOf_4cfef, cJ1_indexOf_4cfef, 4, some .int, 4, 50)
def xVl : List Bool := [false, false, true, true, true, false, false, false, true, true, true, true, true, true, true, true, true, true, true, true, true, true, false, true, true, true, true, true, true, true, true, true, false, true, true, true, true, true, true, true, true, true, false, false, true, true, true, true, true, true, true, true, true, true, true, true, false, true, true, true, true, true, true, true, true, true, true, true, true, false, true, true, true, true, true, true, true, true, true, true, true, true, true, true, true, true, true, true, true, true, true, true, true, true, true, true, true, true, true, true, true, true, true, true, true, true, true, true, true, true, true, true, true, true, true, true, true, true, true, true, true, true, true, true, true, true, true, true, true, true, true, true, true, true, true, true, true, true, true, true, true, true, true, false, false, false, false, false, true, false, true, true, true, true, true, false, true, false, true, true, true, true, true, true, false, true, true, true, true, true, true, true, true, true, false, false, true, true, true, false, false, false, false, true, true, true, true, true, true, true, true, true, true, true, true, true, true, true, true, true, true, true, true, true, true, true, true, true, true, true, true, true, true, true, true, true, true, true, true, true, true, true, true, true, false, true, true, true, true, true, true, true, true, true, true, true, true, true, true, true, true, true, true, true, true, true, true, true, true, false, true, true, true, true, true, true, true, true, true, true, true, true, true, true, true, true, true, true, true, true, true, true, true]
def xVt (y : Nat) : Bool := match xnth xVl y with
  | some b => b
  | none => false
def xokYi (i : xInf) : Prop := Cond.code i.1 i.2.1 i.2.2.1 i.2.2.2.1 ∈ xws ∧ plainName i.1.cls = true ∧ i.1.cls ≠ "java/lang/invoke/MethodHandle" ∧ i.1.cls ≠ "java/lang/invoke/VarHandle" ∧ Cond.initialized i.1.cls ∈ xws ∧ i.2.2.1 ≤ 20 ∧ (parseMethodDescriptor i.1.desc).map (fun d => d.parameters.length) = some i.2.2.2.2.1 ∧ ((∃ (T : u_T) (N : Nat), vwCl[i.2.2.2.2.2]? = some (i.1.cls, T, N)) ∨ (i.2.2.2.2.2 = 20 ∧ i.1.cls = "java/lang/String") ∨ i.2.2.2.2.2 = 50)
def xokVi (i : xInf) : Prop := Cond.instanceMethod i.1 ∈ xws ∧ Cond.selects i.1.cls i.1 i.1 ∈ xws
def xokSi (i : xInf) : Prop := Cond.static i.1 ∈ xws
def xokB : List xInf → List Bool → Prop
  | i :: is, b :: bs => xokYi i ∧ (b = true → xokVi i) ∧ (b = false → xokSi i) ∧ xokB is bs
  | [], [] => True
  | _, _ => False
theorem xcl_0 : plainName "java/lang/Integer" = true ∧ "java/lang/Integer" ≠ "java/lang/invoke/MethodHandle" ∧ "java/lang/Integer" ≠ "java/lang/invoke/VarHandle" ∧ Cond.initialized "java/lang/Integer" ∈ xws := ⟨by decide +kernel, by decide +kernel, by decide +kernel, (xm1 24 rfl rfl)⟩
theorem xcl_1 : plainName "java/lang/String" = true ∧ "java/lang/String" ≠ "java/lang/invoke/MethodHandle" ∧ "java/lang/String" ≠ "java/lang/invoke/VarHandle" ∧ Cond.initialized "java/lang/String" ∈ xws := ⟨by decide +kernel, by decide +kernel, by decide +kernel, (xm1 14 rfl rfl)⟩
theorem xcl_2 : plainName "java/lang/StringLatin1" = true ∧ "java/lang/StringLatin1" ≠ "java/lang/invoke/MethodHandle" ∧ "java/lang/StringLatin1" ≠ "java/lang/invoke/VarHandle" ∧ Cond.initialized "java/lang/StringLatin1" ∈ xws := ⟨by decide +kernel, by decide +kernel, by decide +kernel, (xm1 15 rfl rfl)⟩
theorem xcl_3 : plainName "NameWall$City" = true ∧ "NameWall$City" ≠ "java/lang/invoke/MethodHandle" ∧ "NameWall$City" ≠ "java/lang/invoke/VarHandle" ∧ Cond.initialized "NameWall$City" ∈ xws := ⟨by decide +kernel, by decide +kernel, by decide +kernel, (xm1 5 rfl rfl)⟩
theorem xcl_4 : plainName "NameWall$CityReader" = true ∧ "NameWall$CityReader" ≠ "java/lang/invoke/MethodHandle" ∧ "NameWall$CityReader" ≠ "java/lang/invoke/VarHandle" ∧ Cond.initialized "NameWall$CityReader" ∈ xws := ⟨by decide +kernel, by decide +kernel, by decide +kernel, (xm1 3 rfl rfl)⟩
theorem xcl_5 : plainName "NameWall$Day" = true ∧ "NameWall$Day" ≠ "java/lang/invoke/MethodHandle" ∧ "NameWall$Day" ≠ "java/lang/invoke/VarHandle" ∧ Cond.initialized "NameWall$Day" ∈ xws := ⟨by decide +kernel, by decide +kernel, by decide +kernel, (xm1 8 rfl rfl)⟩
theorem xcl_6 : plainName "NameWall$Dents" = true ∧ "NameWall$Dents" ≠ "java/lang/invoke/MethodHandle" ∧ "NameWall$Dents" ≠ "java/lang/invoke/VarHandle" ∧ Cond.initialized "NameWall$Dents" ∈ xws := ⟨by decide +kernel, by decide +kernel, by decide +kernel, (xm1 10 rfl rfl)⟩
theorem xcl_7 : plainName "NameWall$LawReader" = true ∧ "NameWall$LawReader" ≠ "java/lang/invoke/MethodHandle" ∧ "NameWall$LawReader" ≠ "java/lang/invoke/VarHandle" ∧ Cond.initialized "NameWall$LawReader" ∈ xws := ⟨by decide +kernel, by decide +kernel, by decide +kernel, (xm1 4 rfl rfl)⟩
theorem xcl_8 : plainName "NameWall$Laws" = true ∧ "NameWall$Laws" ≠ "java/lang/invoke/MethodHandle" ∧ "NameWall$Laws" ≠ "java/lang/invoke/VarHandle" ∧ Cond.initialized "NameWall$Laws" ∈ xws := ⟨by decide +kernel, by decide +kernel, by decide +kernel, (xm1 7 rfl rfl)⟩
theorem xcl_9 : plainName "NameWall$Odds" = true ∧ "NameWall$Odds" ≠ "java/lang/invoke/MethodHandle" ∧ "NameWall$Odds" ≠ "java/lang/invoke/VarHandle" ∧ Cond.initialized "NameWall$Odds" ∈ xws := ⟨by decide +kernel, by decide +kernel, by decide +kernel, (xm1 12 rfl rfl)⟩
theorem xcl_10 : plainName "NameWall$Past" = true ∧ "NameWall$Past" ≠ "java/lang/invoke/MethodHandle" ∧ "NameWall$Past" ≠ "java/lang/invoke/VarHandle" ∧ Cond.initialized "NameWall$Past" ∈ xws := ⟨by decide +kernel, by decide +kernel, by decide +kernel, (xm1 9 rfl rfl)⟩
theorem xcl_11 : plainName "NameWall$Plans" = true ∧ "NameWall$Plans" ≠ "java/lang/invoke/MethodHandle" ∧ "NameWall$Plans" ≠ "java/lang/invoke/VarHandle" ∧ Cond.initialized "NameWall$Plans" ∈ xws := ⟨by decide +kernel, by decide +kernel, by decide +kernel, (xm1 11 rfl rfl)⟩
theorem xcl_12 : plainName "NameWall$Tape" = true ∧ "NameWall$Tape" ≠ "java/lang/invoke/MethodHandle" ∧ "NameWall$Tape" ≠ "java/lang/invoke/VarHandle" ∧ Cond.initialized "NameWall$Tape" ∈ xws := ⟨by decide +kernel, by decide +kernel, by decide +kernel, (xm1 2 rfl rfl)⟩
theorem xcl_13 : plainName "NameWall$Wall" = true ∧ "NameWall$Wall" ≠ "java/lang/invoke/MethodHandle" ∧ "NameWall$Wall" ≠ "java/lang/invoke/VarHandle" ∧ Cond.initialized "NameWall$Wall" ∈ xws := ⟨by decide +kernel, by decide +kernel, by decide +kernel, (xm1 6 rfl rfl)⟩
theorem xcl_14 : plainName "NameWall" = true ∧ "NameWall" ≠ "java/lang/invoke/MethodHandle" ∧ "NameWall" ≠ "java/lang/invoke/VarHandle" ∧ Cond.initialized "NameWall" ∈ xws := ⟨by decide +kernel, by decide +kernel, by decide +kernel, (xm1 1 rfl rfl)⟩
theorem xcl_15 : plainName "NameWallModel" = true ∧ "NameWallModel" ≠ "java/lang/invoke/MethodHandle" ∧ "NameWallModel" ≠ "java/lang/invoke/VarHandle" ∧ Cond.initialized "NameWallModel" ∈ xws := ⟨by decide +kernel, by decide +kernel, by decide +kernel, (xm1 13 rfl rfl)⟩
set_option maxRecDepth 20000 in
theorem xYa_0 : xokYi (yJ6_bitCount_0f7a4, cJ6_bitCount_0f7a4, 1, some .int, 1, 50) := ⟨(xm4 66 rfl rfl), xcl_0.1, xcl_0.2.1, xcl_0.2.2.1, xcl_0.2.2.2, Nat.le_of_ble_eq_true rfl, by decide +kernel, Or.inr (Or.inr rfl)⟩
set_option maxRecDepth 20000 in
theorem xYv_0 : xokSi (yJ6_bitCount_0f7a4, cJ6_bitCount_0f7a4, 1, some .int, 1, 50) := (xm4 65 rfl rfl)
set_option maxRecDepth 20000 in
theorem xYa_1 : xokYi (yJ6_numberOfTrailingZeros_0f7a4, cJ6_numberOfTrailingZeros_0f7a4, 2, some .int, 1, 50) := ⟨(xm7 215 rfl rfl), xcl_0.1, xcl_0.2.1, xcl_0.2.2.1, xcl_0.2.2.2, Nat.le_of_ble_eq_true rfl, by decide +kernel, Or.inr (Or.inr rfl)⟩
set_option maxRecDepth 20000 in
theorem xYv_1 : xokSi (yJ6_numberOfTrailingZeros_0f7a4, cJ6_numberOfTrailingZeros_0f7a4, 2, some .int, 1, 50) := (xm7 214 rfl rfl)
set_option maxRecDepth 20000 in
theorem xYa_2 : xokYi (yJ0_indexOf_0f7a4, cJ0_indexOf_0f7a4, 2, some .int, 1, 20) := ⟨(xm2 214 rfl rfl), xcl_1.1, xcl_1.2.1, xcl_1.2.2.1, xcl_1.2.2.2, Nat.le_of_ble_eq_true rfl, by decide +kernel, Or.inr (Or.inl ⟨rfl, rfl⟩)⟩
set_option maxRecDepth 20000 in
theorem xYv_2 : xokVi (yJ0_indexOf_0f7a4, cJ0_indexOf_0f7a4, 2, some .int, 1, 20) := ⟨(xm2 212 rfl rfl), (xm2 213 rfl rfl)⟩
set_option maxRecDepth 20000 in
theorem xYa_3 : xokYi (yJ0_indexOf_7cf53, cJ0_indexOf_7cf53, 3, some .int, 2, 20) := ⟨(xm2 218 rfl rfl), xcl_1.1, xcl_1.2.1, xcl_1.2.2.1, xcl_1.2.2.2, Nat.le_of_ble_eq_true rfl, by decide +kernel, Or.inr (Or.inl ⟨rfl, rfl⟩)⟩
set_option maxRecDepth 20000 in
theorem xYv_3 : xokVi (yJ0_indexOf_7cf53, cJ0_indexOf_7cf53, 3, some .int, 2, 20) := ⟨(xm2 216 rfl rfl), (xm2 217 rfl rfl)⟩
set_option maxRecDepth 20000 in
theorem xYa_4 : xokYi (yJ0_isLatin1_aae02, cJ0_isLatin1_aae02, 1, some .boolean, 0, 20) := ⟨(xm2 222 rfl rfl), xcl_1.1, xcl_1.2.1, xcl_1.2.2.1, xcl_1.2.2.2, Nat.le_of_ble_eq_true rfl, by decide +kernel, Or.inr (Or.inl ⟨rfl, rfl⟩)⟩
set_option maxRecDepth 20000 in
theorem xYv_4 : xokVi (yJ0_isLatin1_aae02, cJ0_isLatin1_aae02, 1, some .boolean, 0, 20) := ⟨(xm2 220 rfl rfl), (xm2 221 rfl rfl)⟩
set_option maxRecDepth 20000 in
theorem xYa_5 : xokYi (yJ1_indexOf_4cfef, cJ1_indexOf_4cfef, 4, some .int, 4, 50) := ⟨(xm2 235 rfl rfl), xcl_2.1, xcl_2.2.1, xcl_2.2.2.1, xcl_2.2.2.2, Nat.le_of_ble_eq_true rfl, by decide +kernel, Or.inr (Or.inr rfl)⟩
set_option maxRecDepth 20000 in
theorem xYv_5 : xokSi (yJ1_indexOf_4cfef, cJ1_indexOf_4cfef, 4, some .int, 4, 50) := (xm2 234 rfl rfl)
set_option maxRecDepth 20000 in
theorem xYa_6 : xokYi (yJ1_canEncode_9a6ad, cJ1_canEncode_9a6ad, 1, some .boolean, 1, 50) := ⟨(xm2 238 rfl rfl), xcl_2.1, xcl_2.2.1, xcl_2.2.2.1, xcl_2.2.2.2, Nat.le_of_ble_eq_true rfl, by decide +kernel, Or.inr (Or.inr rfl)⟩
set_option maxRecDepth 20000 in
theorem xYv_6 : xokSi (yJ1_canEncode_9a6ad, cJ1_canEncode_9a6ad, 1, some .boolean, 1, 50) := (xm2 237 rfl rfl)
set_option maxRecDepth 20000 in
theorem xYa_7 : xokYi (yJ1_indexOfChar_4cfef, cJ1_indexOfChar_4cfef, 6, some .int, 4, 50) := ⟨(xm3 7 rfl rfl), xcl_2.1, xcl_2.2.1, xcl_2.2.2.1, xcl_2.2.2.2, Nat.le_of_ble_eq_true rfl, by decide +kernel, Or.inr (Or.inr rfl)⟩
set_option maxRecDepth 20000 in
theorem xYv_7 : xokSi (yJ1_indexOfChar_4cfef, cJ1_indexOfChar_4cfef, 6, some .int, 4, 50) := (xm3 6 rfl rfl)
set_option maxRecDepth 20000 in
theorem xYa_8 : xokYi (yX0_clear, cX0_clear, 2, none, 0, 0) := ⟨(xm2 190 rfl rfl), xcl_3.1, xcl_3.2.1, xcl_3.2.2.1, xcl_3.2.2.2, Nat.le_of_ble_eq_true rfl, by decide +kernel, Or.inl ⟨_, _, rfl⟩⟩
set_option maxRecDepth 20000 in
theorem xYv_8 : xokVi (yX0_clear, cX0_clear, 2, none, 0, 0) := ⟨(xm2 188 rfl rfl), (xm2 189 rfl rfl)⟩
set_option maxRecDepth 20000 in
theorem xYa_9 : xokYi (yX0_isWhole, cX0_isWhole, 2, some .boolean, 0, 0) := ⟨(xm3 87 rfl rfl), xcl_3.1, xcl_3.2.1, xcl_3.2.2.1, xcl_3.2.2.2, Nat.le_of_ble_eq_true rfl, by decide +kernel, Or.inl ⟨_, _, rfl⟩⟩
set_option maxRecDepth 20000 in
theorem xYv_9 : xokVi (yX0_isWhole, cX0_isWhole, 2, some .boolean, 0, 0) := ⟨(xm3 85 rfl rfl), (xm3 86 rfl rfl)⟩
set_option maxRecDepth 20000 in
theorem xYa_10 : xokYi (yX0_findFriends, cX0_findFriends, 3, none, 0, 0) := ⟨(xm3 91 rfl rfl), xcl_3.1, xcl_3.2.1, xcl_3.2.2.1, xcl_3.2.2.2, Nat.le_of_ble_eq_true rfl, by decide +kernel, Or.inl ⟨_, _, rfl⟩⟩
set_option maxRecDepth 20000 in
theorem xYv_10 : xokVi (yX0_findFriends, cX0_findFriends, 3, none, 0, 0) := ⟨(xm3 90 rfl rfl), (xmP 3 rfl rfl)⟩
set_option maxRecDepth 20000 in
theorem xYa_11 : xokYi (yX0_findAlike, cX0_findAlike, 4, none, 0, 0) := ⟨(xm3 95 rfl rfl), xcl_3.1, xcl_3.2.1, xcl_3.2.2.1, xcl_3.2.2.2, Nat.le_of_ble_eq_true rfl, by decide +kernel, Or.inl ⟨_, _, rfl⟩⟩
set_option maxRecDepth 20000 in
theorem xYv_11 : xokVi (yX0_findAlike, cX0_findAlike, 4, none, 0, 0) := ⟨(xm3 94 rfl rfl), (xmP 4 rfl rfl)⟩
set_option maxRecDepth 20000 in
theorem xYa_12 : xokYi (yX0_partWith, cX0_partWith, 6, some .int, 2, 0) := ⟨(xm4 237 rfl rfl), xcl_3.1, xcl_3.2.1, xcl_3.2.2.1, xcl_3.2.2.2, Nat.le_of_ble_eq_true rfl, by decide +kernel, Or.inl ⟨_, _, rfl⟩⟩
set_option maxRecDepth 20000 in
theorem xYv_12 : xokVi (yX0_partWith, cX0_partWith, 6, some .int, 2, 0) := ⟨(xm4 235 rfl rfl), (xm4 236 rfl rfl)⟩
set_option maxRecDepth 20000 in
theorem xYa_13 : xokYi (yX0_partsOf, cX0_partsOf, 5, some .int, 1, 0) := ⟨(xm4 232 rfl rfl), xcl_3.1, xcl_3.2.1, xcl_3.2.2.1, xcl_3.2.2.2, Nat.le_of_ble_eq_true rfl, by decide +kernel, Or.inl ⟨_, _, rfl⟩⟩
set_option maxRecDepth 20000 in
theorem xYv_13 : xokVi (yX0_partsOf, cX0_partsOf, 5, some .int, 1, 0) := ⟨(xm4 230 rfl rfl), (xm4 231 rfl rfl)⟩
set_option maxRecDepth 20000 in
theorem xYa_14 : xokYi (yX1_read, cX1_read, 5, some .int, 2, 1) := ⟨(xm2 186 rfl rfl), xcl_4.1, xcl_4.2.1, xcl_4.2.2.1, xcl_4.2.2.2, Nat.le_of_ble_eq_true rfl, by decide +kernel, Or.inl ⟨_, _, rfl⟩⟩
set_option maxRecDepth 20000 in
theorem xYv_14 : xokVi (yX1_read, cX1_read, 5, some .int, 2, 1) := ⟨(xm2 184 rfl rfl), (xm2 185 rfl rfl)⟩
set_option maxRecDepth 20000 in
theorem xYa_15 : xokYi (yX1_readClause, cX1_readClause, 4, some .boolean, 2, 1) := ⟨(xm2 196 rfl rfl), xcl_4.1, xcl_4.2.1, xcl_4.2.2.1, xcl_4.2.2.2, Nat.le_of_ble_eq_true rfl, by decide +kernel, Or.inl ⟨_, _, rfl⟩⟩
set_option maxRecDepth 20000 in
theorem xYv_15 : xokVi (yX1_readClause, cX1_readClause, 4, some .boolean, 2, 1) := ⟨(xm2 195 rfl rfl), (xmP 1 rfl rfl)⟩
set_option maxRecDepth 20000 in
theorem xYa_16 : xokYi (yX1_readItems, cX1_readItems, 11, some .boolean, 6, 1) := ⟨(xm2 210 rfl rfl), xcl_4.1, xcl_4.2.1, xcl_4.2.2.1, xcl_4.2.2.2, Nat.le_of_ble_eq_true rfl, by decide +kernel, Or.inl ⟨_, _, rfl⟩⟩
set_option maxRecDepth 20000 in
theorem xYv_16 : xokVi (yX1_readItems, cX1_readItems, 11, some .boolean, 6, 1) := ⟨(xm2 209 rfl rfl), (xmP 2 rfl rfl)⟩
set_option maxRecDepth 20000 in
theorem xYa_17 : xokYi (yX2_begin, cX2_begin, 3, none, 1, 2) := ⟨(xm3 156 rfl rfl), xcl_5.1, xcl_5.2.1, xcl_5.2.2.1, xcl_5.2.2.2, Nat.le_of_ble_eq_true rfl, by decide +kernel, Or.inl ⟨_, _, rfl⟩⟩
set_option maxRecDepth 20000 in
theorem xYv_17 : xokVi (yX2_begin, cX2_begin, 3, none, 1, 2) := ⟨(xm3 154 rfl rfl), (xm3 155 rfl rfl)⟩
set_option maxRecDepth 20000 in
theorem xYa_18 : xokYi (yX2_dawn, cX2_dawn, 1, none, 0, 2) := ⟨(xm4 77 rfl rfl), xcl_5.1, xcl_5.2.1, xcl_5.2.2.1, xcl_5.2.2.2, Nat.le_of_ble_eq_true rfl, by decide +kernel, Or.inl ⟨_, _, rfl⟩⟩
set_option maxRecDepth 20000 in
theorem xYv_18 : xokVi (yX2_dawn, cX2_dawn, 1, none, 0, 2) := ⟨(xm4 75 rfl rfl), (xm4 76 rfl rfl)⟩
set_option maxRecDepth 20000 in
theorem xYa_19 : xokYi (yX2_silence, cX2_silence, 2, none, 0, 2) := ⟨(xm1 178 rfl rfl), xcl_5.1, xcl_5.2.1, xcl_5.2.2.1, xcl_5.2.2.2, Nat.le_of_ble_eq_true rfl, by decide +kernel, Or.inl ⟨_, _, rfl⟩⟩
set_option maxRecDepth 20000 in
theorem xYv_19 : xokVi (yX2_silence, cX2_silence, 2, none, 0, 2) := ⟨(xm1 177 rfl rfl), (xmP 0 rfl rfl)⟩
set_option maxRecDepth 20000 in
theorem xYa_20 : xokYi (yX2_become, cX2_become, 3, none, 1, 2) := ⟨(xm3 215 rfl rfl), xcl_5.1, xcl_5.2.1, xcl_5.2.2.1, xcl_5.2.2.2, Nat.le_of_ble_eq_true rfl, by decide +kernel, Or.inl ⟨_, _, rfl⟩⟩
set_option maxRecDepth 20000 in
theorem xYv_20 : xokVi (yX2_become, cX2_become, 3, none, 1, 2) := ⟨(xm3 213 rfl rfl), (xm3 214 rfl rfl)⟩
set_option maxRecDepth 20000 in
theorem xYa_21 : xokYi (yX3_add, cX3_add, 4, some .boolean, 3, 3) := ⟨(xm5 14 rfl rfl), xcl_6.1, xcl_6.2.1, xcl_6.2.2.1, xcl_6.2.2.2, Nat.le_of_ble_eq_true rfl, by decide +kernel, Or.inl ⟨_, _, rfl⟩⟩
set_option maxRecDepth 20000 in
theorem xYv_21 : xokVi (yX3_add, cX3_add, 4, some .boolean, 3, 3) := ⟨(xm5 12 rfl rfl), (xm5 13 rfl rfl)⟩
set_option maxRecDepth 20000 in
theorem xYa_22 : xokYi (yX3_letterOf, cX3_letterOf, 2, some .int, 2, 3) := ⟨(xm5 29 rfl rfl), xcl_6.1, xcl_6.2.1, xcl_6.2.2.1, xcl_6.2.2.2, Nat.le_of_ble_eq_true rfl, by decide +kernel, Or.inl ⟨_, _, rfl⟩⟩
set_option maxRecDepth 20000 in
theorem xYv_22 : xokSi (yX3_letterOf, cX3_letterOf, 2, some .int, 2, 3) := (xm5 28 rfl rfl)
set_option maxRecDepth 20000 in
theorem xYa_23 : xokYi (yX3_canBe, cX3_canBe, 3, some .boolean, 1, 3) := ⟨(xm5 26 rfl rfl), xcl_6.1, xcl_6.2.1, xcl_6.2.2.1, xcl_6.2.2.2, Nat.le_of_ble_eq_true rfl, by decide +kernel, Or.inl ⟨_, _, rfl⟩⟩
set_option maxRecDepth 20000 in
theorem xYv_23 : xokVi (yX3_canBe, cX3_canBe, 3, some .boolean, 1, 3) := ⟨(xm5 25 rfl rfl), (xmP 34 rfl rfl)⟩
set_option maxRecDepth 20000 in
theorem xYa_24 : xokYi (yX3_fitting, cX3_fitting, 3, some .int, 0, 3) := ⟨(xm5 22 rfl rfl), xcl_6.1, xcl_6.2.1, xcl_6.2.2.1, xcl_6.2.2.2, Nat.le_of_ble_eq_true rfl, by decide +kernel, Or.inl ⟨_, _, rfl⟩⟩
set_option maxRecDepth 20000 in
theorem xYv_24 : xokVi (yX3_fitting, cX3_fitting, 3, some .int, 0, 3) := ⟨(xm5 20 rfl rfl), (xm5 21 rfl rfl)⟩
set_option maxRecDepth 20000 in
theorem xYa_25 : xokYi (yX3_fittingAt, cX3_fittingAt, 4, some .int, 1, 3) := ⟨(xm5 33 rfl rfl), xcl_6.1, xcl_6.2.1, xcl_6.2.2.1, xcl_6.2.2.2, Nat.le_of_ble_eq_true rfl, by decide +kernel, Or.inl ⟨_, _, rfl⟩⟩
set_option maxRecDepth 20000 in
theorem xYv_25 : xokVi (yX3_fittingAt, cX3_fittingAt, 4, some .int, 1, 3) := ⟨(xm5 31 rfl rfl), (xm5 32 rfl rfl)⟩
set_option maxRecDepth 20000 in
theorem xYa_26 : xokYi (yX3_look, cX3_look, 7, some .int, 0, 3) := ⟨(xm5 41 rfl rfl), xcl_6.1, xcl_6.2.1, xcl_6.2.2.1, xcl_6.2.2.2, Nat.le_of_ble_eq_true rfl, by decide +kernel, Or.inl ⟨_, _, rfl⟩⟩
set_option maxRecDepth 20000 in
theorem xYv_26 : xokVi (yX3_look, cX3_look, 7, some .int, 0, 3) := ⟨(xm5 39 rfl rfl), (xm5 40 rfl rfl)⟩
set_option maxRecDepth 20000 in
theorem xYa_27 : xokYi (yX3_fittingWith, cX3_fittingWith, 5, some .int, 2, 3) := ⟨(xm5 46 rfl rfl), xcl_6.1, xcl_6.2.1, xcl_6.2.2.1, xcl_6.2.2.2, Nat.le_of_ble_eq_true rfl, by decide +kernel, Or.inl ⟨_, _, rfl⟩⟩
set_option maxRecDepth 20000 in
theorem xYv_27 : xokVi (yX3_fittingWith, cX3_fittingWith, 5, some .int, 2, 3) := ⟨(xm5 45 rfl rfl), (xmP 35 rfl rfl)⟩
set_option maxRecDepth 20000 in
theorem xYa_28 : xokYi (yX4_read, cX4_read, 4, some .int, 1, 4) := ⟨(xm3 99 rfl rfl), xcl_7.1, xcl_7.2.1, xcl_7.2.2.1, xcl_7.2.2.2, Nat.le_of_ble_eq_true rfl, by decide +kernel, Or.inl ⟨_, _, rfl⟩⟩
set_option maxRecDepth 20000 in
theorem xYv_28 : xokVi (yX4_read, cX4_read, 4, some .int, 1, 4) := ⟨(xm3 97 rfl rfl), (xm3 98 rfl rfl)⟩
set_option maxRecDepth 20000 in
theorem xYa_29 : xokYi (yX4_put, cX4_put, 2, some .boolean, 1, 4) := ⟨(xm3 127 rfl rfl), xcl_7.1, xcl_7.2.1, xcl_7.2.2.1, xcl_7.2.2.2, Nat.le_of_ble_eq_true rfl, by decide +kernel, Or.inl ⟨_, _, rfl⟩⟩
set_option maxRecDepth 20000 in
theorem xYv_29 : xokVi (yX4_put, cX4_put, 2, some .boolean, 1, 4) := ⟨(xm3 126 rfl rfl), (xmP 10 rfl rfl)⟩
set_option maxRecDepth 20000 in
theorem xYa_30 : xokYi (yX4_readClause, cX4_readClause, 2, some .boolean, 1, 4) := ⟨(xm3 103 rfl rfl), xcl_7.1, xcl_7.2.1, xcl_7.2.2.1, xcl_7.2.2.2, Nat.le_of_ble_eq_true rfl, by decide +kernel, Or.inl ⟨_, _, rfl⟩⟩
set_option maxRecDepth 20000 in
theorem xYv_30 : xokVi (yX4_readClause, cX4_readClause, 2, some .boolean, 1, 4) := ⟨(xm3 102 rfl rfl), (xmP 5 rfl rfl)⟩
set_option maxRecDepth 20000 in
theorem xYa_31 : xokYi (yX4_isConditionAhead, cX4_isConditionAhead, 6, some .boolean, 1, 4) := ⟨(xm3 108 rfl rfl), xcl_7.1, xcl_7.2.1, xcl_7.2.2.1, xcl_7.2.2.2, Nat.le_of_ble_eq_true rfl, by decide +kernel, Or.inl ⟨_, _, rfl⟩⟩
set_option maxRecDepth 20000 in
theorem xYv_31 : xokVi (yX4_isConditionAhead, cX4_isConditionAhead, 6, some .boolean, 1, 4) := ⟨(xm3 107 rfl rfl), (xmP 6 rfl rfl)⟩
set_option maxRecDepth 20000 in
theorem xYa_32 : xokYi (yX4_isComparison, cX4_isComparison, 1, some .boolean, 1, 4) := ⟨(xm3 131 rfl rfl), xcl_7.1, xcl_7.2.1, xcl_7.2.2.1, xcl_7.2.2.2, Nat.le_of_ble_eq_true rfl, by decide +kernel, Or.inl ⟨_, _, rfl⟩⟩
set_option maxRecDepth 20000 in
theorem xYv_32 : xokSi (yX4_isComparison, cX4_isComparison, 1, some .boolean, 1, 4) := (xm3 130 rfl rfl)
set_option maxRecDepth 20000 in
theorem xYa_33 : xokYi (yX4_readCondition, cX4_readCondition, 5, some .boolean, 2, 4) := ⟨(xm3 135 rfl rfl), xcl_7.1, xcl_7.2.1, xcl_7.2.2.1, xcl_7.2.2.2, Nat.le_of_ble_eq_true rfl, by decide +kernel, Or.inl ⟨_, _, rfl⟩⟩
set_option maxRecDepth 20000 in
theorem xYv_33 : xokVi (yX4_readCondition, cX4_readCondition, 5, some .boolean, 2, 4) := ⟨(xm3 134 rfl rfl), (xmP 11 rfl rfl)⟩
set_option maxRecDepth 20000 in
theorem xYa_34 : xokYi (yX4_readTruth, cX4_readTruth, 5, some .boolean, 2, 4) := ⟨(xm3 139 rfl rfl), xcl_7.1, xcl_7.2.1, xcl_7.2.2.1, xcl_7.2.2.2, Nat.le_of_ble_eq_true rfl, by decide +kernel, Or.inl ⟨_, _, rfl⟩⟩
set_option maxRecDepth 20000 in
theorem xYv_34 : xokVi (yX4_readTruth, cX4_readTruth, 5, some .boolean, 2, 4) := ⟨(xm3 138 rfl rfl), (xmP 12 rfl rfl)⟩
set_option maxRecDepth 20000 in
theorem xYa_35 : xokYi (yX4_readUnit, cX4_readUnit, 4, some .boolean, 2, 4) := ⟨(xm3 143 rfl rfl), xcl_7.1, xcl_7.2.1, xcl_7.2.2.1, xcl_7.2.2.2, Nat.le_of_ble_eq_true rfl, by decide +kernel, Or.inl ⟨_, _, rfl⟩⟩
set_option maxRecDepth 20000 in
theorem xYv_35 : xokVi (yX4_readUnit, cX4_readUnit, 4, some .boolean, 2, 4) := ⟨(xm3 142 rfl rfl), (xmP 13 rfl rfl)⟩
set_option maxRecDepth 20000 in
theorem xYa_36 : xokYi (yX4_readSum, cX4_readSum, 6, some .boolean, 2, 4) := ⟨(xm3 113 rfl rfl), xcl_7.1, xcl_7.2.1, xcl_7.2.2.1, xcl_7.2.2.2, Nat.le_of_ble_eq_true rfl, by decide +kernel, Or.inl ⟨_, _, rfl⟩⟩
set_option maxRecDepth 20000 in
theorem xYv_36 : xokVi (yX4_readSum, cX4_readSum, 6, some .boolean, 2, 4) := ⟨(xm3 112 rfl rfl), (xmP 7 rfl rfl)⟩
set_option maxRecDepth 20000 in
theorem xYa_37 : xokYi (yX4_readTerm, cX4_readTerm, 6, some .boolean, 2, 4) := ⟨(xm3 117 rfl rfl), xcl_7.1, xcl_7.2.1, xcl_7.2.2.1, xcl_7.2.2.2, Nat.le_of_ble_eq_true rfl, by decide +kernel, Or.inl ⟨_, _, rfl⟩⟩
set_option maxRecDepth 20000 in
theorem xYv_37 : xokVi (yX4_readTerm, cX4_readTerm, 6, some .boolean, 2, 4) := ⟨(xm3 116 rfl rfl), (xmP 8 rfl rfl)⟩
set_option maxRecDepth 20000 in
theorem xYa_38 : xokYi (yX4_readAtom, cX4_readAtom, 5, some .boolean, 2, 4) := ⟨(xm3 121 rfl rfl), xcl_7.1, xcl_7.2.1, xcl_7.2.2.1, xcl_7.2.2.2, Nat.le_of_ble_eq_true rfl, by decide +kernel, Or.inl ⟨_, _, rfl⟩⟩
set_option maxRecDepth 20000 in
theorem xYv_38 : xokVi (yX4_readAtom, cX4_readAtom, 5, some .boolean, 2, 4) := ⟨(xm3 120 rfl rfl), (xmP 9 rfl rfl)⟩
set_option maxRecDepth 20000 in
theorem xYa_39 : xokYi (yX5_add, cX5_add, 4, some .int, 2, 5) := ⟨(xm3 164 rfl rfl), xcl_8.1, xcl_8.2.1, xcl_8.2.2.1, xcl_8.2.2.2, Nat.le_of_ble_eq_true rfl, by decide +kernel, Or.inl ⟨_, _, rfl⟩⟩
set_option maxRecDepth 20000 in
theorem xYv_39 : xokVi (yX5_add, cX5_add, 4, some .int, 2, 5) := ⟨(xm3 162 rfl rfl), (xm3 163 rfl rfl)⟩
set_option maxRecDepth 20000 in
theorem xYa_40 : xokYi (yX5_worth, cX5_worth, 11, some .int, 6, 5) := ⟨(xm4 34 rfl rfl), xcl_8.1, xcl_8.2.1, xcl_8.2.2.1, xcl_8.2.2.2, Nat.le_of_ble_eq_true rfl, by decide +kernel, Or.inl ⟨_, _, rfl⟩⟩
set_option maxRecDepth 20000 in
theorem xYv_40 : xokVi (yX5_worth, cX5_worth, 11, some .int, 6, 5) := ⟨(xm4 32 rfl rfl), (xm4 33 rfl rfl)⟩
set_option maxRecDepth 20000 in
theorem xYa_41 : xokYi (yX5_reckon, cX5_reckon, 4, none, 1, 5) := ⟨(xm4 43 rfl rfl), xcl_8.1, xcl_8.2.1, xcl_8.2.2.1, xcl_8.2.2.2, Nat.le_of_ble_eq_true rfl, by decide +kernel, Or.inl ⟨_, _, rfl⟩⟩
set_option maxRecDepth 20000 in
theorem xYv_41 : xokVi (yX5_reckon, cX5_reckon, 4, none, 1, 5) := ⟨(xm4 42 rfl rfl), (xmP 20 rfl rfl)⟩
set_option maxRecDepth 20000 in
theorem xYa_42 : xokYi (yX5_joined, cX5_joined, 3, some .long, 3, 5) := ⟨(xm4 52 rfl rfl), xcl_8.1, xcl_8.2.1, xcl_8.2.2.1, xcl_8.2.2.2, Nat.le_of_ble_eq_true rfl, by decide +kernel, Or.inl ⟨_, _, rfl⟩⟩
set_option maxRecDepth 20000 in
theorem xYv_42 : xokSi (yX5_joined, cX5_joined, 3, some .long, 3, 5) := (xm4 51 rfl rfl)
set_option maxRecDepth 20000 in
theorem xYa_43 : xokYi (yX5_bounded, cX5_bounded, 2, some .int, 1, 5) := ⟨(xm4 55 rfl rfl), xcl_8.1, xcl_8.2.1, xcl_8.2.2.1, xcl_8.2.2.2, Nat.le_of_ble_eq_true rfl, by decide +kernel, Or.inl ⟨_, _, rfl⟩⟩
set_option maxRecDepth 20000 in
theorem xYv_43 : xokSi (yX5_bounded, cX5_bounded, 2, some .int, 1, 5) := (xm4 54 rfl rfl)
set_option maxRecDepth 20000 in
theorem xYa_44 : xokYi (yX5_push, cX5_push, 2, none, 1, 5) := ⟨(xm4 47 rfl rfl), xcl_8.1, xcl_8.2.1, xcl_8.2.2.1, xcl_8.2.2.2, Nat.le_of_ble_eq_true rfl, by decide +kernel, Or.inl ⟨_, _, rfl⟩⟩
set_option maxRecDepth 20000 in
theorem xYv_44 : xokVi (yX5_push, cX5_push, 2, none, 1, 5) := ⟨(xm4 46 rfl rfl), (xmP 21 rfl rfl)⟩
set_option maxRecDepth 20000 in
theorem xYa_45 : xokYi (yX5_pop, cX5_pop, 1, some .int, 0, 5) := ⟨(xm4 39 rfl rfl), xcl_8.1, xcl_8.2.1, xcl_8.2.2.1, xcl_8.2.2.2, Nat.le_of_ble_eq_true rfl, by decide +kernel, Or.inl ⟨_, _, rfl⟩⟩
set_option maxRecDepth 20000 in
theorem xYv_45 : xokVi (yX5_pop, cX5_pop, 1, some .int, 0, 5) := ⟨(xm4 38 rfl rfl), (xmP 19 rfl rfl)⟩
set_option maxRecDepth 20000 in
theorem xYa_46 : xokYi (yX6_standing, cX6_standing, 8, some .int, 5, 6) := ⟨(xm5 78 rfl rfl), xcl_9.1, xcl_9.2.1, xcl_9.2.2.1, xcl_9.2.2.2, Nat.le_of_ble_eq_true rfl, by decide +kernel, Or.inl ⟨_, _, rfl⟩⟩
set_option maxRecDepth 20000 in
theorem xYv_46 : xokVi (yX6_standing, cX6_standing, 8, some .int, 5, 6) := ⟨(xm5 76 rfl rfl), (xm5 77 rfl rfl)⟩
set_option maxRecDepth 20000 in
theorem xYa_47 : xokYi (yX6_passDay, cX6_passDay, 8, none, 5, 6) := ⟨(xm5 83 rfl rfl), xcl_9.1, xcl_9.2.1, xcl_9.2.2.1, xcl_9.2.2.2, Nat.le_of_ble_eq_true rfl, by decide +kernel, Or.inl ⟨_, _, rfl⟩⟩
set_option maxRecDepth 20000 in
theorem xYv_47 : xokVi (yX6_passDay, cX6_passDay, 8, none, 5, 6) := ⟨(xm5 82 rfl rfl), (xmP 37 rfl rfl)⟩
set_option maxRecDepth 20000 in
theorem xYa_48 : xokYi (yX6_add, cX6_add, 3, none, 2, 6) := ⟨(xm5 90 rfl rfl), xcl_9.1, xcl_9.2.1, xcl_9.2.2.1, xcl_9.2.2.2, Nat.le_of_ble_eq_true rfl, by decide +kernel, Or.inl ⟨_, _, rfl⟩⟩
set_option maxRecDepth 20000 in
theorem xYv_48 : xokVi (yX6_add, cX6_add, 3, none, 2, 6) := ⟨(xm5 89 rfl rfl), (xmP 38 rfl rfl)⟩
set_option maxRecDepth 20000 in
theorem xYa_49 : xokYi (yX7_clear, cX7_clear, 1, none, 0, 7) := ⟨(xm3 160 rfl rfl), xcl_10.1, xcl_10.2.1, xcl_10.2.2.1, xcl_10.2.2.2, Nat.le_of_ble_eq_true rfl, by decide +kernel, Or.inl ⟨_, _, rfl⟩⟩
set_option maxRecDepth 20000 in
theorem xYv_49 : xokVi (yX7_clear, cX7_clear, 1, none, 0, 7) := ⟨(xm3 158 rfl rfl), (xm3 159 rfl rfl)⟩
set_option maxRecDepth 20000 in
theorem xYa_50 : xokYi (yX7_remember, cX7_remember, 2, none, 1, 7) := ⟨(xm3 211 rfl rfl), xcl_10.1, xcl_10.2.1, xcl_10.2.2.1, xcl_10.2.2.2, Nat.le_of_ble_eq_true rfl, by decide +kernel, Or.inl ⟨_, _, rfl⟩⟩
set_option maxRecDepth 20000 in
theorem xYv_50 : xokVi (yX7_remember, cX7_remember, 2, none, 1, 7) := ⟨(xm3 209 rfl rfl), (xm3 210 rfl rfl)⟩
set_option maxRecDepth 20000 in
theorem xYa_51 : xokYi (yX7_takeBack, cX7_takeBack, 2, some .boolean, 1, 7) := ⟨(xm4 115 rfl rfl), xcl_10.1, xcl_10.2.1, xcl_10.2.2.1, xcl_10.2.2.2, Nat.le_of_ble_eq_true rfl, by decide +kernel, Or.inl ⟨_, _, rfl⟩⟩
set_option maxRecDepth 20000 in
theorem xYv_51 : xokVi (yX7_takeBack, cX7_takeBack, 2, some .boolean, 1, 7) := ⟨(xm4 113 rfl rfl), (xm4 114 rfl rfl)⟩
set_option maxRecDepth 20000 in
theorem xYa_52 : xokYi (yX7_write, cX7_write, 6, none, 4, 7) := ⟨(xm4 73 rfl rfl), xcl_10.1, xcl_10.2.1, xcl_10.2.2.1, xcl_10.2.2.2, Nat.le_of_ble_eq_true rfl, by decide +kernel, Or.inl ⟨_, _, rfl⟩⟩
set_option maxRecDepth 20000 in
theorem xYv_52 : xokVi (yX7_write, cX7_write, 6, none, 4, 7) := ⟨(xm4 71 rfl rfl), (xm4 72 rfl rfl)⟩
set_option maxRecDepth 20000 in
theorem xYa_53 : xokYi (yX7_read, cX7_read, 5, some .int, 3, 7) := ⟨(xm4 123 rfl rfl), xcl_10.1, xcl_10.2.1, xcl_10.2.2.1, xcl_10.2.2.2, Nat.le_of_ble_eq_true rfl, by decide +kernel, Or.inl ⟨_, _, rfl⟩⟩
set_option maxRecDepth 20000 in
theorem xYv_53 : xokVi (yX7_read, cX7_read, 5, some .int, 3, 7) := ⟨(xm4 121 rfl rfl), (xm4 122 rfl rfl)⟩
set_option maxRecDepth 20000 in
theorem xYa_54 : xokYi (yX7_paint, cX7_paint, 2, none, 1, 7) := ⟨(xm5 129 rfl rfl), xcl_10.1, xcl_10.2.1, xcl_10.2.2.1, xcl_10.2.2.2, Nat.le_of_ble_eq_true rfl, by decide +kernel, Or.inl ⟨_, _, rfl⟩⟩
set_option maxRecDepth 20000 in
theorem xYv_54 : xokVi (yX7_paint, cX7_paint, 2, none, 1, 7) := ⟨(xm5 127 rfl rfl), (xm5 128 rfl rfl)⟩
set_option maxRecDepth 20000 in
theorem xYa_55 : xokYi (yX7_showImage, cX7_showImage, 2, some .boolean, 1, 7) := ⟨(xm5 140 rfl rfl), xcl_10.1, xcl_10.2.1, xcl_10.2.2.1, xcl_10.2.2.2, Nat.le_of_ble_eq_true rfl, by decide +kernel, Or.inl ⟨_, _, rfl⟩⟩
set_option maxRecDepth 20000 in
theorem xYv_55 : xokVi (yX7_showImage, cX7_showImage, 2, some .boolean, 1, 7) := ⟨(xm5 138 rfl rfl), (xm5 139 rfl rfl)⟩
set_option maxRecDepth 20000 in
theorem xYa_56 : xokYi (yX7_copyLog, cX7_copyLog, 4, none, 2, 7) := ⟨(xm5 132 rfl rfl), xcl_10.1, xcl_10.2.1, xcl_10.2.2.1, xcl_10.2.2.2, Nat.le_of_ble_eq_true rfl, by decide +kernel, Or.inl ⟨_, _, rfl⟩⟩
set_option maxRecDepth 20000 in
theorem xYv_56 : xokSi (yX7_copyLog, cX7_copyLog, 4, none, 2, 7) := (xm5 131 rfl rfl)
set_option maxRecDepth 20000 in
theorem xYa_57 : xokYi (yX8_findKeep, cX8_findKeep, 4, some .boolean, 2, 8) := ⟨(xm4 140 rfl rfl), xcl_11.1, xcl_11.2.1, xcl_11.2.2.1, xcl_11.2.2.2, Nat.le_of_ble_eq_true rfl, by decide +kernel, Or.inl ⟨_, _, rfl⟩⟩
set_option maxRecDepth 20000 in
theorem xYv_57 : xokVi (yX8_findKeep, cX8_findKeep, 4, some .boolean, 2, 8) := ⟨(xm4 138 rfl rfl), (xm4 139 rfl rfl)⟩
set_option maxRecDepth 20000 in
theorem xYa_58 : xokYi (yX8_findLosses, cX8_findLosses, 4, none, 2, 8) := ⟨(xm4 144 rfl rfl), xcl_11.1, xcl_11.2.1, xcl_11.2.2.1, xcl_11.2.2.2, Nat.le_of_ble_eq_true rfl, by decide +kernel, Or.inl ⟨_, _, rfl⟩⟩
set_option maxRecDepth 20000 in
theorem xYv_58 : xokVi (yX8_findLosses, cX8_findLosses, 4, none, 2, 8) := ⟨(xm4 143 rfl rfl), (xmP 25 rfl rfl)⟩
set_option maxRecDepth 20000 in
theorem xYa_59 : xokYi (yX8_findShouters, cX8_findShouters, 3, none, 1, 8) := ⟨(xm4 150 rfl rfl), xcl_11.1, xcl_11.2.1, xcl_11.2.2.1, xcl_11.2.2.2, Nat.le_of_ble_eq_true rfl, by decide +kernel, Or.inl ⟨_, _, rfl⟩⟩
set_option maxRecDepth 20000 in
theorem xYv_59 : xokVi (yX8_findShouters, cX8_findShouters, 3, none, 1, 8) := ⟨(xm4 149 rfl rfl), (xmP 26 rfl rfl)⟩
set_option maxRecDepth 20000 in
theorem xYa_60 : xokYi (yX8_lay, cX8_lay, 7, none, 3, 8) := ⟨(xm4 156 rfl rfl), xcl_11.1, xcl_11.2.1, xcl_11.2.2.1, xcl_11.2.2.2, Nat.le_of_ble_eq_true rfl, by decide +kernel, Or.inl ⟨_, _, rfl⟩⟩
set_option maxRecDepth 20000 in
theorem xYv_60 : xokVi (yX8_lay, cX8_lay, 7, none, 3, 8) := ⟨(xm4 155 rfl rfl), (xmP 27 rfl rfl)⟩
set_option maxRecDepth 20000 in
theorem xYa_61 : xokYi (yX8_change, cX8_change, 5, none, 4, 8) := ⟨(xm4 176 rfl rfl), xcl_11.1, xcl_11.2.1, xcl_11.2.2.1, xcl_11.2.2.2, Nat.le_of_ble_eq_true rfl, by decide +kernel, Or.inl ⟨_, _, rfl⟩⟩
set_option maxRecDepth 20000 in
theorem xYv_61 : xokVi (yX8_change, cX8_change, 5, none, 4, 8) := ⟨(xm4 175 rfl rfl), (xmP 31 rfl rfl)⟩
set_option maxRecDepth 20000 in
theorem xYa_62 : xokYi (yX8_hasHope, cX8_hasHope, 5, some .boolean, 2, 8) := ⟨(xm4 160 rfl rfl), xcl_11.1, xcl_11.2.1, xcl_11.2.2.1, xcl_11.2.2.2, Nat.le_of_ble_eq_true rfl, by decide +kernel, Or.inl ⟨_, _, rfl⟩⟩
set_option maxRecDepth 20000 in
theorem xYv_62 : xokVi (yX8_hasHope, cX8_hasHope, 5, some .boolean, 2, 8) := ⟨(xm4 159 rfl rfl), (xmP 28 rfl rfl)⟩
set_option maxRecDepth 20000 in
theorem xYa_63 : xokYi (yX8_isKept, cX8_isKept, 6, some .boolean, 1, 8) := ⟨(xm4 166 rfl rfl), xcl_11.1, xcl_11.2.1, xcl_11.2.2.1, xcl_11.2.2.2, Nat.le_of_ble_eq_true rfl, by decide +kernel, Or.inl ⟨_, _, rfl⟩⟩
set_option maxRecDepth 20000 in
theorem xYv_63 : xokVi (yX8_isKept, cX8_isKept, 6, some .boolean, 1, 8) := ⟨(xm4 165 rfl rfl), (xmP 29 rfl rfl)⟩
set_option maxRecDepth 20000 in
theorem xYa_64 : xokYi (yX8_writeDigits, cX8_writeDigits, 2, none, 0, 8) := ⟨(xm4 171 rfl rfl), xcl_11.1, xcl_11.2.1, xcl_11.2.2.1, xcl_11.2.2.2, Nat.le_of_ble_eq_true rfl, by decide +kernel, Or.inl ⟨_, _, rfl⟩⟩
set_option maxRecDepth 20000 in
theorem xYv_64 : xokVi (yX8_writeDigits, cX8_writeDigits, 2, none, 0, 8) := ⟨(xm4 170 rfl rfl), (xmP 30 rfl rfl)⟩
set_option maxRecDepth 20000 in
theorem xYa_65 : xokYi (yX8_findRing, cX8_findRing, 4, some .int, 2, 8) := ⟨(xm4 184 rfl rfl), xcl_11.1, xcl_11.2.1, xcl_11.2.2.1, xcl_11.2.2.2, Nat.le_of_ble_eq_true rfl, by decide +kernel, Or.inl ⟨_, _, rfl⟩⟩
set_option maxRecDepth 20000 in
theorem xYv_65 : xokVi (yX8_findRing, cX8_findRing, 4, some .int, 2, 8) := ⟨(xm4 182 rfl rfl), (xm4 183 rfl rfl)⟩
set_option maxRecDepth 20000 in
theorem xYa_66 : xokYi (yX8_goRound, cX8_goRound, 8, some .int, 4, 8) := ⟨(xm4 189 rfl rfl), xcl_11.1, xcl_11.2.1, xcl_11.2.2.1, xcl_11.2.2.2, Nat.le_of_ble_eq_true rfl, by decide +kernel, Or.inl ⟨_, _, rfl⟩⟩
set_option maxRecDepth 20000 in
theorem xYv_66 : xokVi (yX8_goRound, cX8_goRound, 8, some .int, 4, 8) := ⟨(xm4 188 rfl rfl), (xmP 32 rfl rfl)⟩
set_option maxRecDepth 20000 in
theorem xYa_67 : xokYi (yX8_findPrice, cX8_findPrice, 6, some .boolean, 2, 8) := ⟨(xm4 197 rfl rfl), xcl_11.1, xcl_11.2.1, xcl_11.2.2.1, xcl_11.2.2.2, Nat.le_of_ble_eq_true rfl, by decide +kernel, Or.inl ⟨_, _, rfl⟩⟩
set_option maxRecDepth 20000 in
theorem xYv_67 : xokVi (yX8_findPrice, cX8_findPrice, 6, some .boolean, 2, 8) := ⟨(xm4 195 rfl rfl), (xm4 196 rfl rfl)⟩
set_option maxRecDepth 20000 in
theorem xYa_68 : xokYi (yX8_priceOf, cX8_priceOf, 8, none, 4, 8) := ⟨(xm4 207 rfl rfl), xcl_11.1, xcl_11.2.1, xcl_11.2.2.1, xcl_11.2.2.2, Nat.le_of_ble_eq_true rfl, by decide +kernel, Or.inl ⟨_, _, rfl⟩⟩
set_option maxRecDepth 20000 in
theorem xYv_68 : xokVi (yX8_priceOf, cX8_priceOf, 8, none, 4, 8) := ⟨(xm4 206 rfl rfl), (xmP 33 rfl rfl)⟩
set_option maxRecDepth 20000 in
theorem xYa_69 : xokYi (yX9_bytesIn, cX9_bytesIn, 3, some .int, 1, 9) := ⟨(xm2 167 rfl rfl), xcl_12.1, xcl_12.2.1, xcl_12.2.2.1, xcl_12.2.2.2, Nat.le_of_ble_eq_true rfl, by decide +kernel, Or.inl ⟨_, _, rfl⟩⟩
set_option maxRecDepth 20000 in
theorem xYv_69 : xokSi (yX9_bytesIn, cX9_bytesIn, 3, some .int, 1, 9) := (xm2 166 rfl rfl)
set_option maxRecDepth 20000 in
theorem xYa_70 : xokYi (yX9_add, cX9_add, 4, none, 1, 9) := ⟨(xm2 171 rfl rfl), xcl_12.1, xcl_12.2.1, xcl_12.2.2.1, xcl_12.2.2.2, Nat.le_of_ble_eq_true rfl, by decide +kernel, Or.inl ⟨_, _, rfl⟩⟩
set_option maxRecDepth 20000 in
theorem xYv_70 : xokVi (yX9_add, cX9_add, 4, none, 1, 9) := ⟨(xm2 169 rfl rfl), (xm2 170 rfl rfl)⟩
set_option maxRecDepth 20000 in
theorem xYa_71 : xokYi (yX9_sign, cX9_sign, 2, some .int, 0, 9) := ⟨(xm2 200 rfl rfl), xcl_12.1, xcl_12.2.1, xcl_12.2.2.1, xcl_12.2.2.2, Nat.le_of_ble_eq_true rfl, by decide +kernel, Or.inl ⟨_, _, rfl⟩⟩
set_option maxRecDepth 20000 in
theorem xYv_71 : xokVi (yX9_sign, cX9_sign, 2, some .int, 0, 9) := ⟨(xm2 198 rfl rfl), (xm2 199 rfl rfl)⟩
set_option maxRecDepth 20000 in
theorem xYa_72 : xokYi (yX9_takes, cX9_takes, 3, some .boolean, 1, 9) := ⟨(xm3 82 rfl rfl), xcl_12.1, xcl_12.2.1, xcl_12.2.2.1, xcl_12.2.2.2, Nat.le_of_ble_eq_true rfl, by decide +kernel, Or.inl ⟨_, _, rfl⟩⟩
set_option maxRecDepth 20000 in
theorem xYv_72 : xokVi (yX9_takes, cX9_takes, 3, some .boolean, 1, 9) := ⟨(xm3 80 rfl rfl), (xm3 81 rfl rfl)⟩
set_option maxRecDepth 20000 in
theorem xYa_73 : xokYi (yX9_number, cX9_number, 7, some .int, 3, 9) := ⟨(xm3 63 rfl rfl), xcl_12.1, xcl_12.2.1, xcl_12.2.2.1, xcl_12.2.2.2, Nat.le_of_ble_eq_true rfl, by decide +kernel, Or.inl ⟨_, _, rfl⟩⟩
set_option maxRecDepth 20000 in
theorem xYv_73 : xokVi (yX9_number, cX9_number, 7, some .int, 3, 9) := ⟨(xm3 61 rfl rfl), (xm3 62 rfl rfl)⟩
set_option maxRecDepth 20000 in
theorem xYa_74 : xokYi (yX10_isName, cX10_isName, 2, some .boolean, 1, 10) := ⟨(xm3 184 rfl rfl), xcl_13.1, xcl_13.2.1, xcl_13.2.2.1, xcl_13.2.2.2, Nat.le_of_ble_eq_true rfl, by decide +kernel, Or.inl ⟨_, _, rfl⟩⟩
set_option maxRecDepth 20000 in
theorem xYv_74 : xokVi (yX10_isName, cX10_isName, 2, some .boolean, 1, 10) := ⟨(xm3 182 rfl rfl), (xm3 183 rfl rfl)⟩
set_option maxRecDepth 20000 in
theorem xYa_75 : xokYi (yX10_stands, cX10_stands, 2, some .boolean, 1, 10) := ⟨(xm3 193 rfl rfl), xcl_13.1, xcl_13.2.1, xcl_13.2.2.1, xcl_13.2.2.2, Nat.le_of_ble_eq_true rfl, by decide +kernel, Or.inl ⟨_, _, rfl⟩⟩
set_option maxRecDepth 20000 in
theorem xYv_75 : xokVi (yX10_stands, cX10_stands, 2, some .boolean, 1, 10) := ⟨(xm3 191 rfl rfl), (xm3 192 rfl rfl)⟩
set_option maxRecDepth 20000 in
theorem xYa_76 : xokYi (yX10_standing, cX10_standing, 3, some .int, 0, 10) := ⟨(xm4 9 rfl rfl), xcl_13.1, xcl_13.2.1, xcl_13.2.2.1, xcl_13.2.2.2, Nat.le_of_ble_eq_true rfl, by decide +kernel, Or.inl ⟨_, _, rfl⟩⟩
set_option maxRecDepth 20000 in
theorem xYv_76 : xokVi (yX10_standing, cX10_standing, 3, some .int, 0, 10) := ⟨(xm4 7 rfl rfl), (xm4 8 rfl rfl)⟩
set_option maxRecDepth 20000 in
theorem xYa_77 : xokYi (yX10_hasShouted, cX10_hasShouted, 2, some .boolean, 1, 10) := ⟨(xm3 198 rfl rfl), xcl_13.1, xcl_13.2.1, xcl_13.2.2.1, xcl_13.2.2.2, Nat.le_of_ble_eq_true rfl, by decide +kernel, Or.inl ⟨_, _, rfl⟩⟩
set_option maxRecDepth 20000 in
theorem xYv_77 : xokVi (yX10_hasShouted, cX10_hasShouted, 2, some .boolean, 1, 10) := ⟨(xm3 196 rfl rfl), (xm3 197 rfl rfl)⟩
set_option maxRecDepth 20000 in
theorem xYa_78 : xokYi (yX10_shouts, cX10_shouts, 3, some .int, 0, 10) := ⟨(xm4 220 rfl rfl), xcl_13.1, xcl_13.2.1, xcl_13.2.2.1, xcl_13.2.2.2, Nat.le_of_ble_eq_true rfl, by decide +kernel, Or.inl ⟨_, _, rfl⟩⟩
set_option maxRecDepth 20000 in
theorem xYv_78 : xokVi (yX10_shouts, cX10_shouts, 3, some .int, 0, 10) := ⟨(xm4 218 rfl rfl), (xm4 219 rfl rfl)⟩
set_option maxRecDepth 20000 in
theorem xYa_79 : xokYi (yX10_shoutsIn, cX10_shoutsIn, 4, some .int, 1, 10) := ⟨(xm4 5 rfl rfl), xcl_13.1, xcl_13.2.1, xcl_13.2.2.1, xcl_13.2.2.2, Nat.le_of_ble_eq_true rfl, by decide +kernel, Or.inl ⟨_, _, rfl⟩⟩
set_option maxRecDepth 20000 in
theorem xYv_79 : xokVi (yX10_shoutsIn, cX10_shoutsIn, 4, some .int, 1, 10) := ⟨(xm4 4 rfl rfl), (xmP 18 rfl rfl)⟩
set_option maxRecDepth 20000 in
theorem xYa_80 : xokYi (yX10_voice, cX10_voice, 2, some .int, 1, 10) := ⟨(xm4 22 rfl rfl), xcl_13.1, xcl_13.2.1, xcl_13.2.2.1, xcl_13.2.2.2, Nat.le_of_ble_eq_true rfl, by decide +kernel, Or.inl ⟨_, _, rfl⟩⟩
set_option maxRecDepth 20000 in
theorem xYv_80 : xokVi (yX10_voice, cX10_voice, 2, some .int, 1, 10) := ⟨(xm4 20 rfl rfl), (xm4 21 rfl rfl)⟩
set_option maxRecDepth 20000 in
theorem xYa_81 : xokYi (yX10_wage, cX10_wage, 3, some .int, 2, 10) := ⟨(xm3 206 rfl rfl), xcl_13.1, xcl_13.2.1, xcl_13.2.2.1, xcl_13.2.2.2, Nat.le_of_ble_eq_true rfl, by decide +kernel, Or.inl ⟨_, _, rfl⟩⟩
set_option maxRecDepth 20000 in
theorem xYv_81 : xokVi (yX10_wage, cX10_wage, 3, some .int, 2, 10) := ⟨(xm3 204 rfl rfl), (xm3 205 rfl rfl)⟩
set_option maxRecDepth 20000 in
theorem xYa_82 : xokYi (yX10_heard, cX10_heard, 3, some .int, 0, 10) := ⟨(xm4 0 rfl rfl), xcl_13.1, xcl_13.2.1, xcl_13.2.2.1, xcl_13.2.2.2, Nat.le_of_ble_eq_true rfl, by decide +kernel, Or.inl ⟨_, _, rfl⟩⟩
set_option maxRecDepth 20000 in
theorem xYv_82 : xokVi (yX10_heard, cX10_heard, 3, some .int, 0, 10) := ⟨(xm3 238 rfl rfl), (xm3 239 rfl rfl)⟩
set_option maxRecDepth 20000 in
theorem xYa_83 : xokYi (yX10_heardFor, cX10_heardFor, 5, some .int, 2, 10) := ⟨(xm4 26 rfl rfl), xcl_13.1, xcl_13.2.1, xcl_13.2.2.1, xcl_13.2.2.2, Nat.le_of_ble_eq_true rfl, by decide +kernel, Or.inl ⟨_, _, rfl⟩⟩
set_option maxRecDepth 20000 in
theorem xYv_83 : xokVi (yX10_heardFor, cX10_heardFor, 5, some .int, 2, 10) := ⟨(xm4 24 rfl rfl), (xm4 25 rfl rfl)⟩
set_option maxRecDepth 20000 in
theorem xYa_84 : xokYi (yX10_gets, cX10_gets, 5, some .int, 2, 10) := ⟨(xm4 18 rfl rfl), xcl_13.1, xcl_13.2.1, xcl_13.2.2.1, xcl_13.2.2.2, Nat.le_of_ble_eq_true rfl, by decide +kernel, Or.inl ⟨_, _, rfl⟩⟩
set_option maxRecDepth 20000 in
theorem xYv_84 : xokVi (yX10_gets, cX10_gets, 5, some .int, 2, 10) := ⟨(xm4 16 rfl rfl), (xm4 17 rfl rfl)⟩
set_option maxRecDepth 20000 in
theorem xYa_85 : xokYi (yX10_loss, cX10_loss, 8, some .int, 4, 10) := ⟨(xm4 30 rfl rfl), xcl_13.1, xcl_13.2.1, xcl_13.2.2.1, xcl_13.2.2.2, Nat.le_of_ble_eq_true rfl, by decide +kernel, Or.inl ⟨_, _, rfl⟩⟩
set_option maxRecDepth 20000 in
theorem xYv_85 : xokVi (yX10_loss, cX10_loss, 8, some .int, 4, 10) := ⟨(xm4 28 rfl rfl), (xm4 29 rfl rfl)⟩
set_option maxRecDepth 20000 in
theorem xYa_86 : xokYi (yX10_lossNow, cX10_lossNow, 3, some .int, 2, 10) := ⟨(xm4 203 rfl rfl), xcl_13.1, xcl_13.2.1, xcl_13.2.2.1, xcl_13.2.2.2, Nat.le_of_ble_eq_true rfl, by decide +kernel, Or.inl ⟨_, _, rfl⟩⟩
set_option maxRecDepth 20000 in
theorem xYv_86 : xokVi (yX10_lossNow, cX10_lossNow, 3, some .int, 2, 10) := ⟨(xm4 201 rfl rfl), (xm4 202 rfl rfl)⟩
set_option maxRecDepth 20000 in
theorem xYa_87 : xokYi (yX10_held, cX10_held, 2, some .int, 1, 10) := ⟨(xm4 63 rfl rfl), xcl_13.1, xcl_13.2.1, xcl_13.2.2.1, xcl_13.2.2.2, Nat.le_of_ble_eq_true rfl, by decide +kernel, Or.inl ⟨_, _, rfl⟩⟩
set_option maxRecDepth 20000 in
theorem xYv_87 : xokVi (yX10_held, cX10_held, 2, some .int, 1, 10) := ⟨(xm4 61 rfl rfl), (xm4 62 rfl rfl)⟩
set_option maxRecDepth 20000 in
theorem xYa_88 : xokYi (yX10_depthBehind, cX10_depthBehind, 4, some .int, 2, 10) := ⟨(xm4 14 rfl rfl), xcl_13.1, xcl_13.2.1, xcl_13.2.2.1, xcl_13.2.2.2, Nat.le_of_ble_eq_true rfl, by decide +kernel, Or.inl ⟨_, _, rfl⟩⟩
set_option maxRecDepth 20000 in
theorem xYv_88 : xokVi (yX10_depthBehind, cX10_depthBehind, 4, some .int, 2, 10) := ⟨(xm4 12 rfl rfl), (xm4 13 rfl rfl)⟩
set_option maxRecDepth 20000 in
theorem xYa_89 : xokYi (yX10_passEvening, cX10_passEvening, 6, none, 1, 10) := ⟨(xm3 236 rfl rfl), xcl_13.1, xcl_13.2.1, xcl_13.2.2.1, xcl_13.2.2.2, Nat.le_of_ble_eq_true rfl, by decide +kernel, Or.inl ⟨_, _, rfl⟩⟩
set_option maxRecDepth 20000 in
theorem xYv_89 : xokVi (yX10_passEvening, cX10_passEvening, 6, none, 1, 10) := ⟨(xm3 234 rfl rfl), (xm3 235 rfl rfl)⟩
set_option maxRecDepth 20000 in
theorem xYa_90 : xokYi (yX10_hoursNeeded, cX10_hoursNeeded, 6, some .int, 0, 10) := ⟨(xm4 215 rfl rfl), xcl_13.1, xcl_13.2.1, xcl_13.2.2.1, xcl_13.2.2.2, Nat.le_of_ble_eq_true rfl, by decide +kernel, Or.inl ⟨_, _, rfl⟩⟩
set_option maxRecDepth 20000 in
theorem xYv_90 : xokVi (yX10_hoursNeeded, cX10_hoursNeeded, 6, some .int, 0, 10) := ⟨(xm4 213 rfl rfl), (xm4 214 rfl rfl)⟩
set_option maxRecDepth 20000 in
theorem xYa_91 : xokYi (yX10_againstRival, cX10_againstRival, 4, some .int, 3, 10) := ⟨(xm5 61 rfl rfl), xcl_13.1, xcl_13.2.1, xcl_13.2.2.1, xcl_13.2.2.2, Nat.le_of_ble_eq_true rfl, by decide +kernel, Or.inl ⟨_, _, rfl⟩⟩
set_option maxRecDepth 20000 in
theorem xYv_91 : xokVi (yX10_againstRival, cX10_againstRival, 4, some .int, 3, 10) := ⟨(xm5 59 rfl rfl), (xm5 60 rfl rfl)⟩
set_option maxRecDepth 20000 in
theorem xYa_92 : xokYi (yX10_isRest, cX10_isRest, 6, some .boolean, 3, 10) := ⟨(xm5 69 rfl rfl), xcl_13.1, xcl_13.2.1, xcl_13.2.2.1, xcl_13.2.2.2, Nat.le_of_ble_eq_true rfl, by decide +kernel, Or.inl ⟨_, _, rfl⟩⟩
set_option maxRecDepth 20000 in
theorem xYv_92 : xokVi (yX10_isRest, cX10_isRest, 6, some .boolean, 3, 10) := ⟨(xm5 67 rfl rfl), (xm5 68 rfl rfl)⟩
set_option maxRecDepth 20000 in
theorem xYa_93 : xokYi (yX11_feed, cX11_feed, 7, some .int, 5, 11) := ⟨(xm2 164 rfl rfl), xcl_14.1, xcl_14.2.1, xcl_14.2.2.1, xcl_14.2.2.2, Nat.le_of_ble_eq_true rfl, by decide +kernel, Or.inl ⟨_, _, rfl⟩⟩
set_option maxRecDepth 20000 in
theorem xYv_93 : xokVi (yX11_feed, cX11_feed, 7, some .int, 5, 11) := ⟨(xm2 162 rfl rfl), (xm2 163 rfl rfl)⟩
set_option maxRecDepth 20000 in
theorem xYa_94 : xokYi (yX11_end, cX11_end, 2, some .boolean, 1, 11) := ⟨(xm2 175 rfl rfl), xcl_14.1, xcl_14.2.1, xcl_14.2.2.1, xcl_14.2.2.2, Nat.le_of_ble_eq_true rfl, by decide +kernel, Or.inl ⟨_, _, rfl⟩⟩
set_option maxRecDepth 20000 in
theorem xYv_94 : xokVi (yX11_end, cX11_end, 2, some .boolean, 1, 11) := ⟨(xm2 173 rfl rfl), (xm2 174 rfl rfl)⟩
set_option maxRecDepth 20000 in
theorem xYa_95 : xokYi (yX11_fault, cX11_fault, 2, some .int, 1, 11) := ⟨(xm2 182 rfl rfl), xcl_14.1, xcl_14.2.1, xcl_14.2.2.1, xcl_14.2.2.2, Nat.le_of_ble_eq_true rfl, by decide +kernel, Or.inl ⟨_, _, rfl⟩⟩
set_option maxRecDepth 20000 in
theorem xYv_95 : xokVi (yX11_fault, cX11_fault, 2, some .int, 1, 11) := ⟨(xm2 180 rfl rfl), (xm2 181 rfl rfl)⟩
set_option maxRecDepth 20000 in
theorem xYa_96 : xokYi (yX11_text, cX11_text, 2, some .int, 1, 11) := ⟨(xm3 148 rfl rfl), xcl_14.1, xcl_14.2.1, xcl_14.2.2.1, xcl_14.2.2.2, Nat.le_of_ble_eq_true rfl, by decide +kernel, Or.inl ⟨_, _, rfl⟩⟩
set_option maxRecDepth 20000 in
theorem xYv_96 : xokVi (yX11_text, cX11_text, 2, some .int, 1, 11) := ⟨(xm3 146 rfl rfl), (xm3 147 rfl rfl)⟩
set_option maxRecDepth 20000 in
theorem xYa_97 : xokYi (yX11_beginCity, cX11_beginCity, 1, none, 0, 11) := ⟨(xm3 152 rfl rfl), xcl_14.1, xcl_14.2.1, xcl_14.2.2.1, xcl_14.2.2.2, Nat.le_of_ble_eq_true rfl, by decide +kernel, Or.inl ⟨_, _, rfl⟩⟩
set_option maxRecDepth 20000 in
theorem xYv_97 : xokVi (yX11_beginCity, cX11_beginCity, 1, none, 0, 11) := ⟨(xm3 151 rfl rfl), (xmP 14 rfl rfl)⟩
set_option maxRecDepth 20000 in
theorem xYa_98 : xokYi (yX11_square, cX11_square, 2, some .int, 1, 11) := ⟨(xm3 168 rfl rfl), xcl_14.1, xcl_14.2.1, xcl_14.2.2.1, xcl_14.2.2.2, Nat.le_of_ble_eq_true rfl, by decide +kernel, Or.inl ⟨_, _, rfl⟩⟩
set_option maxRecDepth 20000 in
theorem xYv_98 : xokVi (yX11_square, cX11_square, 2, some .int, 1, 11) := ⟨(xm3 166 rfl rfl), (xm3 167 rfl rfl)⟩
set_option maxRecDepth 20000 in
theorem xYa_99 : xokYi (yX11_name, cX11_name, 4, some .int, 2, 11) := ⟨(xm5 154 rfl rfl), xcl_14.1, xcl_14.2.1, xcl_14.2.2.1, xcl_14.2.2.2, Nat.le_of_ble_eq_true rfl, by decide +kernel, Or.inl ⟨_, _, rfl⟩⟩
set_option maxRecDepth 20000 in
theorem xYv_99 : xokVi (yX11_name, cX11_name, 4, some .int, 2, 11) := ⟨(xm5 152 rfl rfl), (xm5 153 rfl rfl)⟩
set_option maxRecDepth 20000 in
theorem xYa_100 : xokYi (yX11_law, cX11_law, 2, some .boolean, 1, 11) := ⟨(xm3 176 rfl rfl), xcl_14.1, xcl_14.2.1, xcl_14.2.2.1, xcl_14.2.2.2, Nat.le_of_ble_eq_true rfl, by decide +kernel, Or.inl ⟨_, _, rfl⟩⟩
set_option maxRecDepth 20000 in
theorem xYv_100 : xokVi (yX11_law, cX11_law, 2, some .boolean, 1, 11) := ⟨(xm3 174 rfl rfl), (xm3 175 rfl rfl)⟩
set_option maxRecDepth 20000 in
theorem xYa_101 : xokYi (yX11_tied, cX11_tied, 3, some .int, 2, 11) := ⟨(xm3 180 rfl rfl), xcl_14.1, xcl_14.2.1, xcl_14.2.2.1, xcl_14.2.2.2, Nat.le_of_ble_eq_true rfl, by decide +kernel, Or.inl ⟨_, _, rfl⟩⟩
set_option maxRecDepth 20000 in
theorem xYv_101 : xokVi (yX11_tied, cX11_tied, 3, some .int, 2, 11) := ⟨(xm3 178 rfl rfl), (xm3 179 rfl rfl)⟩
set_option maxRecDepth 20000 in
theorem xYa_102 : xokYi (yX11_shout, cX11_shout, 5, some .int, 3, 11) := ⟨(xm3 189 rfl rfl), xcl_14.1, xcl_14.2.1, xcl_14.2.2.1, xcl_14.2.2.2, Nat.le_of_ble_eq_true rfl, by decide +kernel, Or.inl ⟨_, _, rfl⟩⟩
set_option maxRecDepth 20000 in
theorem xYv_102 : xokVi (yX11_shout, cX11_shout, 5, some .int, 3, 11) := ⟨(xm3 187 rfl rfl), (xm3 188 rfl rfl)⟩
set_option maxRecDepth 20000 in
theorem xYa_103 : xokYi (yX11_fog, cX11_fog, 2, some .boolean, 1, 11) := ⟨(xm3 220 rfl rfl), xcl_14.1, xcl_14.2.1, xcl_14.2.2.1, xcl_14.2.2.2, Nat.le_of_ble_eq_true rfl, by decide +kernel, Or.inl ⟨_, _, rfl⟩⟩
set_option maxRecDepth 20000 in
theorem xYv_103 : xokVi (yX11_fog, cX11_fog, 2, some .boolean, 1, 11) := ⟨(xm3 218 rfl rfl), (xm3 219 rfl rfl)⟩
set_option maxRecDepth 20000 in
theorem xYa_104 : xokYi (yX11_hoarse, cX11_hoarse, 2, some .boolean, 1, 11) := ⟨(xm3 224 rfl rfl), xcl_14.1, xcl_14.2.1, xcl_14.2.2.1, xcl_14.2.2.2, Nat.le_of_ble_eq_true rfl, by decide +kernel, Or.inl ⟨_, _, rfl⟩⟩
set_option maxRecDepth 20000 in
theorem xYv_104 : xokVi (yX11_hoarse, cX11_hoarse, 2, some .boolean, 1, 11) := ⟨(xm3 222 rfl rfl), (xm3 223 rfl rfl)⟩
set_option maxRecDepth 20000 in
theorem xYa_105 : xokYi (yX11_evening, cX11_evening, 3, some .int, 1, 11) := ⟨(xm3 228 rfl rfl), xcl_14.1, xcl_14.2.1, xcl_14.2.2.1, xcl_14.2.2.2, Nat.le_of_ble_eq_true rfl, by decide +kernel, Or.inl ⟨_, _, rfl⟩⟩
set_option maxRecDepth 20000 in
theorem xYv_105 : xokVi (yX11_evening, cX11_evening, 3, some .int, 1, 11) := ⟨(xm3 226 rfl rfl), (xm3 227 rfl rfl)⟩
set_option maxRecDepth 20000 in
theorem xYa_106 : xokYi (yX11_cannotPass, cX11_cannotPass, 2, some .boolean, 1, 11) := ⟨(xm3 232 rfl rfl), xcl_14.1, xcl_14.2.1, xcl_14.2.2.1, xcl_14.2.2.2, Nat.le_of_ble_eq_true rfl, by decide +kernel, Or.inl ⟨_, _, rfl⟩⟩
set_option maxRecDepth 20000 in
theorem xYv_106 : xokVi (yX11_cannotPass, cX11_cannotPass, 2, some .boolean, 1, 11) := ⟨(xm3 231 rfl rfl), (xmP 17 rfl rfl)⟩
set_option maxRecDepth 20000 in
theorem xYa_107 : xokYi (yX11_fogs, cX11_fogs, 2, some .boolean, 1, 11) := ⟨(xm4 81 rfl rfl), xcl_14.1, xcl_14.2.1, xcl_14.2.2.1, xcl_14.2.2.2, Nat.le_of_ble_eq_true rfl, by decide +kernel, Or.inl ⟨_, _, rfl⟩⟩
set_option maxRecDepth 20000 in
theorem xYv_107 : xokVi (yX11_fogs, cX11_fogs, 2, some .boolean, 1, 11) := ⟨(xm4 79 rfl rfl), (xm4 80 rfl rfl)⟩
set_option maxRecDepth 20000 in
theorem xYa_108 : xokYi (yX11_colds, cX11_colds, 2, some .boolean, 1, 11) := ⟨(xm4 85 rfl rfl), xcl_14.1, xcl_14.2.1, xcl_14.2.2.1, xcl_14.2.2.2, Nat.le_of_ble_eq_true rfl, by decide +kernel, Or.inl ⟨_, _, rfl⟩⟩
set_option maxRecDepth 20000 in
theorem xYv_108 : xokVi (yX11_colds, cX11_colds, 2, some .boolean, 1, 11) := ⟨(xm4 83 rfl rfl), (xm4 84 rfl rfl)⟩
set_option maxRecDepth 20000 in
theorem xYa_109 : xokYi (yX11_centuries, cX11_centuries, 5, some .int, 2, 11) := ⟨(xm4 89 rfl rfl), xcl_14.1, xcl_14.2.1, xcl_14.2.2.1, xcl_14.2.2.2, Nat.le_of_ble_eq_true rfl, by decide +kernel, Or.inl ⟨_, _, rfl⟩⟩
set_option maxRecDepth 20000 in
theorem xYv_109 : xokVi (yX11_centuries, cX11_centuries, 5, some .int, 2, 11) := ⟨(xm4 87 rfl rfl), (xm4 88 rfl rfl)⟩
set_option maxRecDepth 20000 in
theorem xYa_110 : xokYi (yX11_drawWeather, cX11_drawWeather, 2, none, 0, 11) := ⟨(xm4 93 rfl rfl), xcl_14.1, xcl_14.2.1, xcl_14.2.2.1, xcl_14.2.2.2, Nat.le_of_ble_eq_true rfl, by decide +kernel, Or.inl ⟨_, _, rfl⟩⟩
set_option maxRecDepth 20000 in
theorem xYv_110 : xokVi (yX11_drawWeather, cX11_drawWeather, 2, none, 0, 11) := ⟨(xm4 92 rfl rfl), (xmP 22 rfl rfl)⟩
set_option maxRecDepth 20000 in
theorem xYa_111 : xokYi (yX11_drawShouts, cX11_drawShouts, 4, none, 0, 11) := ⟨(xm4 103 rfl rfl), xcl_14.1, xcl_14.2.1, xcl_14.2.2.1, xcl_14.2.2.2, Nat.le_of_ble_eq_true rfl, by decide +kernel, Or.inl ⟨_, _, rfl⟩⟩
set_option maxRecDepth 20000 in
theorem xYv_111 : xokVi (yX11_drawShouts, cX11_drawShouts, 4, none, 0, 11) := ⟨(xm4 102 rfl rfl), (xmP 24 rfl rfl)⟩
set_option maxRecDepth 20000 in
theorem xYa_112 : xokYi (yX11_draw, cX11_draw, 2, some .int, 1, 11) := ⟨(xm4 97 rfl rfl), xcl_14.1, xcl_14.2.1, xcl_14.2.2.1, xcl_14.2.2.2, Nat.le_of_ble_eq_true rfl, by decide +kernel, Or.inl ⟨_, _, rfl⟩⟩
set_option maxRecDepth 20000 in
theorem xYv_112 : xokVi (yX11_draw, cX11_draw, 2, some .int, 1, 11) := ⟨(xm4 96 rfl rfl), (xmP 23 rfl rfl)⟩
set_option maxRecDepth 20000 in
theorem xYa_113 : xokYi (yX11_undo, cX11_undo, 1, some .int, 0, 11) := ⟨(xm4 111 rfl rfl), xcl_14.1, xcl_14.2.1, xcl_14.2.2.1, xcl_14.2.2.2, Nat.le_of_ble_eq_true rfl, by decide +kernel, Or.inl ⟨_, _, rfl⟩⟩
set_option maxRecDepth 20000 in
theorem xYv_113 : xokVi (yX11_undo, cX11_undo, 1, some .int, 0, 11) := ⟨(xm4 109 rfl rfl), (xm4 110 rfl rfl)⟩
set_option maxRecDepth 20000 in
theorem xYa_114 : xokYi (yX11_log, cX11_log, 3, some .int, 2, 11) := ⟨(xm4 119 rfl rfl), xcl_14.1, xcl_14.2.1, xcl_14.2.2.1, xcl_14.2.2.2, Nat.le_of_ble_eq_true rfl, by decide +kernel, Or.inl ⟨_, _, rfl⟩⟩
set_option maxRecDepth 20000 in
theorem xYv_114 : xokVi (yX11_log, cX11_log, 3, some .int, 2, 11) := ⟨(xm4 117 rfl rfl), (xm4 118 rfl rfl)⟩
set_option maxRecDepth 20000 in
theorem xYa_115 : xokYi (yX11_alone, cX11_alone, 5, some .int, 1, 11) := ⟨(xm4 128 rfl rfl), xcl_14.1, xcl_14.2.1, xcl_14.2.2.1, xcl_14.2.2.2, Nat.le_of_ble_eq_true rfl, by decide +kernel, Or.inl ⟨_, _, rfl⟩⟩
set_option maxRecDepth 20000 in
theorem xYv_115 : xokVi (yX11_alone, cX11_alone, 5, some .int, 1, 11) := ⟨(xm4 126 rfl rfl), (xm4 127 rfl rfl)⟩
set_option maxRecDepth 20000 in
theorem xYa_116 : xokYi (yX11_keep, cX11_keep, 3, some .int, 2, 11) := ⟨(xm4 134 rfl rfl), xcl_14.1, xcl_14.2.1, xcl_14.2.2.1, xcl_14.2.2.2, Nat.le_of_ble_eq_true rfl, by decide +kernel, Or.inl ⟨_, _, rfl⟩⟩
set_option maxRecDepth 20000 in
theorem xYv_116 : xokVi (yX11_keep, cX11_keep, 3, some .int, 2, 11) := ⟨(xm4 132 rfl rfl), (xm4 133 rfl rfl)⟩
set_option maxRecDepth 20000 in
theorem xYa_117 : xokYi (yX11_ring, cX11_ring, 2, some .int, 1, 11) := ⟨(xm4 180 rfl rfl), xcl_14.1, xcl_14.2.1, xcl_14.2.2.1, xcl_14.2.2.2, Nat.le_of_ble_eq_true rfl, by decide +kernel, Or.inl ⟨_, _, rfl⟩⟩
set_option maxRecDepth 20000 in
theorem xYv_117 : xokVi (yX11_ring, cX11_ring, 2, some .int, 1, 11) := ⟨(xm4 178 rfl rfl), (xm4 179 rfl rfl)⟩
set_option maxRecDepth 20000 in
theorem xYa_118 : xokYi (yX11_price, cX11_price, 3, some .int, 2, 11) := ⟨(xm4 193 rfl rfl), xcl_14.1, xcl_14.2.1, xcl_14.2.2.1, xcl_14.2.2.2, Nat.le_of_ble_eq_true rfl, by decide +kernel, Or.inl ⟨_, _, rfl⟩⟩
set_option maxRecDepth 20000 in
theorem xYv_118 : xokVi (yX11_price, cX11_price, 3, some .int, 2, 11) := ⟨(xm4 191 rfl rfl), (xm4 192 rfl rfl)⟩
set_option maxRecDepth 20000 in
theorem xYa_119 : xokYi (yX11_packed, cX11_packed, 1, some .int, 0, 11) := ⟨(xm4 211 rfl rfl), xcl_14.1, xcl_14.2.1, xcl_14.2.2.1, xcl_14.2.2.2, Nat.le_of_ble_eq_true rfl, by decide +kernel, Or.inl ⟨_, _, rfl⟩⟩
set_option maxRecDepth 20000 in
theorem xYv_119 : xokVi (yX11_packed, cX11_packed, 1, some .int, 0, 11) := ⟨(xm4 209 rfl rfl), (xm4 210 rfl rfl)⟩
set_option maxRecDepth 20000 in
theorem xYa_120 : xokYi (yX11_weak, cX11_weak, 4, some .int, 0, 11) := ⟨(xm4 224 rfl rfl), xcl_14.1, xcl_14.2.1, xcl_14.2.2.1, xcl_14.2.2.2, Nat.le_of_ble_eq_true rfl, by decide +kernel, Or.inl ⟨_, _, rfl⟩⟩
set_option maxRecDepth 20000 in
theorem xYv_120 : xokVi (yX11_weak, cX11_weak, 4, some .int, 0, 11) := ⟨(xm4 222 rfl rfl), (xm4 223 rfl rfl)⟩
set_option maxRecDepth 20000 in
theorem xYa_121 : xokYi (yX11_parts, cX11_parts, 1, some .int, 0, 11) := ⟨(xm4 228 rfl rfl), xcl_14.1, xcl_14.2.1, xcl_14.2.2.1, xcl_14.2.2.2, Nat.le_of_ble_eq_true rfl, by decide +kernel, Or.inl ⟨_, _, rfl⟩⟩
set_option maxRecDepth 20000 in
theorem xYv_121 : xokVi (yX11_parts, cX11_parts, 1, some .int, 0, 11) := ⟨(xm4 226 rfl rfl), (xm4 227 rfl rfl)⟩
set_option maxRecDepth 20000 in
theorem xYa_122 : xokYi (yX11_bridges, cX11_bridges, 5, some .int, 0, 11) := ⟨(xm5 1 rfl rfl), xcl_14.1, xcl_14.2.1, xcl_14.2.2.1, xcl_14.2.2.2, Nat.le_of_ble_eq_true rfl, by decide +kernel, Or.inl ⟨_, _, rfl⟩⟩
set_option maxRecDepth 20000 in
theorem xYv_122 : xokVi (yX11_bridges, cX11_bridges, 5, some .int, 0, 11) := ⟨(xm4 239 rfl rfl), (xm5 0 rfl rfl)⟩
set_option maxRecDepth 20000 in
theorem xYa_123 : xokYi (yX11_bond, cX11_bond, 8, some .int, 0, 11) := ⟨(xm5 5 rfl rfl), xcl_14.1, xcl_14.2.1, xcl_14.2.2.1, xcl_14.2.2.2, Nat.le_of_ble_eq_true rfl, by decide +kernel, Or.inl ⟨_, _, rfl⟩⟩
set_option maxRecDepth 20000 in
theorem xYv_123 : xokVi (yX11_bond, cX11_bond, 8, some .int, 0, 11) := ⟨(xm5 3 rfl rfl), (xm5 4 rfl rfl)⟩
set_option maxRecDepth 20000 in
theorem xYa_124 : xokYi (yX11_dent, cX11_dent, 4, some .int, 3, 11) := ⟨(xm5 10 rfl rfl), xcl_14.1, xcl_14.2.1, xcl_14.2.2.1, xcl_14.2.2.2, Nat.le_of_ble_eq_true rfl, by decide +kernel, Or.inl ⟨_, _, rfl⟩⟩
set_option maxRecDepth 20000 in
theorem xYv_124 : xokVi (yX11_dent, cX11_dent, 4, some .int, 3, 11) := ⟨(xm5 8 rfl rfl), (xm5 9 rfl rfl)⟩
set_option maxRecDepth 20000 in
theorem xYa_125 : xokYi (yX11_fits, cX11_fits, 2, some .int, 1, 11) := ⟨(xm5 18 rfl rfl), xcl_14.1, xcl_14.2.1, xcl_14.2.2.1, xcl_14.2.2.2, Nat.le_of_ble_eq_true rfl, by decide +kernel, Or.inl ⟨_, _, rfl⟩⟩
set_option maxRecDepth 20000 in
theorem xYv_125 : xokVi (yX11_fits, cX11_fits, 2, some .int, 1, 11) := ⟨(xm5 16 rfl rfl), (xm5 17 rfl rfl)⟩
set_option maxRecDepth 20000 in
theorem xYa_126 : xokYi (yX11_best, cX11_best, 1, some .int, 0, 11) := ⟨(xm5 37 rfl rfl), xcl_14.1, xcl_14.2.1, xcl_14.2.2.1, xcl_14.2.2.2, Nat.le_of_ble_eq_true rfl, by decide +kernel, Or.inl ⟨_, _, rfl⟩⟩
set_option maxRecDepth 20000 in
theorem xYv_126 : xokVi (yX11_best, cX11_best, 1, some .int, 0, 11) := ⟨(xm5 35 rfl rfl), (xm5 36 rfl rfl)⟩
set_option maxRecDepth 20000 in
theorem xYa_127 : xokYi (yX11_rival, cX11_rival, 4, some .int, 3, 11) := ⟨(xm5 53 rfl rfl), xcl_14.1, xcl_14.2.1, xcl_14.2.2.1, xcl_14.2.2.2, Nat.le_of_ble_eq_true rfl, by decide +kernel, Or.inl ⟨_, _, rfl⟩⟩
set_option maxRecDepth 20000 in
theorem xYv_127 : xokVi (yX11_rival, cX11_rival, 4, some .int, 3, 11) := ⟨(xm5 51 rfl rfl), (xm5 52 rfl rfl)⟩
set_option maxRecDepth 20000 in
theorem xYa_128 : xokYi (yX11_rests, cX11_rests, 7, some .int, 2, 11) := ⟨(xm5 65 rfl rfl), xcl_14.1, xcl_14.2.1, xcl_14.2.2.1, xcl_14.2.2.2, Nat.le_of_ble_eq_true rfl, by decide +kernel, Or.inl ⟨_, _, rfl⟩⟩
set_option maxRecDepth 20000 in
theorem xYv_128 : xokVi (yX11_rests, cX11_rests, 7, some .int, 2, 11) := ⟨(xm5 63 rfl rfl), (xm5 64 rfl rfl)⟩
set_option maxRecDepth 20000 in
theorem xYa_129 : xokYi (yX11_odds, cX11_odds, 5, some .int, 4, 11) := ⟨(xm5 74 rfl rfl), xcl_14.1, xcl_14.2.1, xcl_14.2.2.1, xcl_14.2.2.2, Nat.le_of_ble_eq_true rfl, by decide +kernel, Or.inl ⟨_, _, rfl⟩⟩
set_option maxRecDepth 20000 in
theorem xYv_129 : xokVi (yX11_odds, cX11_odds, 5, some .int, 4, 11) := ⟨(xm5 72 rfl rfl), (xm5 73 rfl rfl)⟩
set_option maxRecDepth 20000 in
theorem xYa_130 : xokYi (yX11_need, cX11_need, 2, some .int, 1, 11) := ⟨(xm5 94 rfl rfl), xcl_14.1, xcl_14.2.1, xcl_14.2.2.1, xcl_14.2.2.2, Nat.le_of_ble_eq_true rfl, by decide +kernel, Or.inl ⟨_, _, rfl⟩⟩
set_option maxRecDepth 20000 in
theorem xYv_130 : xokVi (yX11_need, cX11_need, 2, some .int, 1, 11) := ⟨(xm5 92 rfl rfl), (xm5 93 rfl rfl)⟩
set_option maxRecDepth 20000 in
theorem xYa_131 : xokYi (yX11_sharpest, cX11_sharpest, 3, some .int, 0, 11) := ⟨(xm5 98 rfl rfl), xcl_14.1, xcl_14.2.1, xcl_14.2.2.1, xcl_14.2.2.2, Nat.le_of_ble_eq_true rfl, by decide +kernel, Or.inl ⟨_, _, rfl⟩⟩
set_option maxRecDepth 20000 in
theorem xYv_131 : xokVi (yX11_sharpest, cX11_sharpest, 3, some .int, 0, 11) := ⟨(xm5 96 rfl rfl), (xm5 97 rfl rfl)⟩
set_option maxRecDepth 20000 in
theorem xYa_132 : xokYi (yX11_faintest, cX11_faintest, 3, some .int, 0, 11) := ⟨(xm5 102 rfl rfl), xcl_14.1, xcl_14.2.1, xcl_14.2.2.1, xcl_14.2.2.2, Nat.le_of_ble_eq_true rfl, by decide +kernel, Or.inl ⟨_, _, rfl⟩⟩
set_option maxRecDepth 20000 in
theorem xYv_132 : xokVi (yX11_faintest, cX11_faintest, 3, some .int, 0, 11) := ⟨(xm5 100 rfl rfl), (xm5 101 rfl rfl)⟩
set_option maxRecDepth 20000 in
theorem xYa_133 : xokYi (yX11_richest, cX11_richest, 3, some .int, 0, 11) := ⟨(xm5 106 rfl rfl), xcl_14.1, xcl_14.2.1, xcl_14.2.2.1, xcl_14.2.2.2, Nat.le_of_ble_eq_true rfl, by decide +kernel, Or.inl ⟨_, _, rfl⟩⟩
set_option maxRecDepth 20000 in
theorem xYv_133 : xokVi (yX11_richest, cX11_richest, 3, some .int, 0, 11) := ⟨(xm5 104 rfl rfl), (xm5 105 rfl rfl)⟩
set_option maxRecDepth 20000 in
theorem xYa_134 : xokYi (yX11_friends, cX11_friends, 2, some .int, 1, 11) := ⟨(xm5 110 rfl rfl), xcl_14.1, xcl_14.2.1, xcl_14.2.2.1, xcl_14.2.2.2, Nat.le_of_ble_eq_true rfl, by decide +kernel, Or.inl ⟨_, _, rfl⟩⟩
set_option maxRecDepth 20000 in
theorem xYv_134 : xokVi (yX11_friends, cX11_friends, 2, some .int, 1, 11) := ⟨(xm5 108 rfl rfl), (xm5 109 rfl rfl)⟩
set_option maxRecDepth 20000 in
theorem xYa_135 : xokYi (yX11_helped, cX11_helped, 4, some .int, 0, 11) := ⟨(xm5 114 rfl rfl), xcl_14.1, xcl_14.2.1, xcl_14.2.2.1, xcl_14.2.2.2, Nat.le_of_ble_eq_true rfl, by decide +kernel, Or.inl ⟨_, _, rfl⟩⟩
set_option maxRecDepth 20000 in
theorem xYv_135 : xokVi (yX11_helped, cX11_helped, 4, some .int, 0, 11) := ⟨(xm5 112 rfl rfl), (xm5 113 rfl rfl)⟩
set_option maxRecDepth 20000 in
theorem xYa_136 : xokYi (yX11_doomed, cX11_doomed, 4, some .int, 0, 11) := ⟨(xm5 120 rfl rfl), xcl_14.1, xcl_14.2.1, xcl_14.2.2.1, xcl_14.2.2.2, Nat.le_of_ble_eq_true rfl, by decide +kernel, Or.inl ⟨_, _, rfl⟩⟩
set_option maxRecDepth 20000 in
theorem xYv_136 : xokVi (yX11_doomed, cX11_doomed, 4, some .int, 0, 11) := ⟨(xm5 118 rfl rfl), (xm5 119 rfl rfl)⟩
set_option maxRecDepth 20000 in
theorem xYa_137 : xokYi (yX11_image, cX11_image, 1, some .int, 0, 11) := ⟨(xm5 125 rfl rfl), xcl_14.1, xcl_14.2.1, xcl_14.2.2.1, xcl_14.2.2.2, Nat.le_of_ble_eq_true rfl, by decide +kernel, Or.inl ⟨_, _, rfl⟩⟩
set_option maxRecDepth 20000 in
theorem xYv_137 : xokVi (yX11_image, cX11_image, 1, some .int, 0, 11) := ⟨(xm5 123 rfl rfl), (xm5 124 rfl rfl)⟩
set_option maxRecDepth 20000 in
theorem xYa_138 : xokYi (yX11_back, cX11_back, 1, some .int, 0, 11) := ⟨(xm5 136 rfl rfl), xcl_14.1, xcl_14.2.1, xcl_14.2.2.1, xcl_14.2.2.2, Nat.le_of_ble_eq_true rfl, by decide +kernel, Or.inl ⟨_, _, rfl⟩⟩
set_option maxRecDepth 20000 in
theorem xYv_138 : xokVi (yX11_back, cX11_back, 1, some .int, 0, 11) := ⟨(xm5 134 rfl rfl), (xm5 135 rfl rfl)⟩
set_option maxRecDepth 20000 in
theorem xYa_139 : xokYi (yX11_count, cX11_count, 2, some .int, 1, 11) := ⟨(xm5 144 rfl rfl), xcl_14.1, xcl_14.2.1, xcl_14.2.2.1, xcl_14.2.2.2, Nat.le_of_ble_eq_true rfl, by decide +kernel, Or.inl ⟨_, _, rfl⟩⟩
set_option maxRecDepth 20000 in
theorem xYv_139 : xokVi (yX11_count, cX11_count, 2, some .int, 1, 11) := ⟨(xm5 142 rfl rfl), (xm5 143 rfl rfl)⟩
set_option maxRecDepth 20000 in
theorem xYa_140 : xokYi (yX11_hasNoCity, cX11_hasNoCity, 1, some .boolean, 0, 11) := ⟨(xm3 172 rfl rfl), xcl_14.1, xcl_14.2.1, xcl_14.2.2.1, xcl_14.2.2.2, Nat.le_of_ble_eq_true rfl, by decide +kernel, Or.inl ⟨_, _, rfl⟩⟩
set_option maxRecDepth 20000 in
theorem xYv_140 : xokVi (yX11_hasNoCity, cX11_hasNoCity, 1, some .boolean, 0, 11) := ⟨(xm3 171 rfl rfl), (xmP 15 rfl rfl)⟩
set_option maxRecDepth 20000 in
theorem xYa_141 : xokYi (yX11_canShout, cX11_canShout, 2, some .boolean, 1, 11) := ⟨(xm5 57 rfl rfl), xcl_14.1, xcl_14.2.1, xcl_14.2.2.1, xcl_14.2.2.2, Nat.le_of_ble_eq_true rfl, by decide +kernel, Or.inl ⟨_, _, rfl⟩⟩
set_option maxRecDepth 20000 in
theorem xYv_141 : xokVi (yX11_canShout, cX11_canShout, 2, some .boolean, 1, 11) := ⟨(xm5 56 rfl rfl), (xmP 36 rfl rfl)⟩
set_option maxRecDepth 20000 in
theorem xYa_142 : xokYi (yX11_isHour, cX11_isHour, 2, some .boolean, 1, 11) := ⟨(xm3 202 rfl rfl), xcl_14.1, xcl_14.2.1, xcl_14.2.2.1, xcl_14.2.2.2, Nat.le_of_ble_eq_true rfl, by decide +kernel, Or.inl ⟨_, _, rfl⟩⟩
set_option maxRecDepth 20000 in
theorem xYv_142 : xokVi (yX11_isHour, cX11_isHour, 2, some .boolean, 1, 11) := ⟨(xm3 201 rfl rfl), (xmP 16 rfl rfl)⟩
set_option maxRecDepth 20000 in
theorem xYa_143 : xokYi (yX11_isOutside, cX11_isOutside, 3, some .boolean, 3, 11) := ⟨(xm2 178 rfl rfl), xcl_14.1, xcl_14.2.1, xcl_14.2.2.1, xcl_14.2.2.2, Nat.le_of_ble_eq_true rfl, by decide +kernel, Or.inl ⟨_, _, rfl⟩⟩
set_option maxRecDepth 20000 in
theorem xYv_143 : xokSi (yX11_isOutside, cX11_isOutside, 3, some .boolean, 3, 11) := (xm2 177 rfl rfl)
set_option maxRecDepth 20000 in
theorem xYa_144 : xokYi (yX11_has, cX11_has, 2, some .boolean, 2, 11) := ⟨(xm3 59 rfl rfl), xcl_14.1, xcl_14.2.1, xcl_14.2.2.1, xcl_14.2.2.2, Nat.le_of_ble_eq_true rfl, by decide +kernel, Or.inl ⟨_, _, rfl⟩⟩
set_option maxRecDepth 20000 in
theorem xYv_144 : xokSi (yX11_has, cX11_has, 2, some .boolean, 2, 11) := (xm3 58 rfl rfl)
set_option maxRecDepth 20000 in
theorem xYa_145 : xokYi (yX11_lowest, cX11_lowest, 2, some .int, 1, 11) := ⟨(xm4 107 rfl rfl), xcl_14.1, xcl_14.2.1, xcl_14.2.2.1, xcl_14.2.2.2, Nat.le_of_ble_eq_true rfl, by decide +kernel, Or.inl ⟨_, _, rfl⟩⟩
set_option maxRecDepth 20000 in
theorem xYv_145 : xokSi (yX11_lowest, cX11_lowest, 2, some .int, 1, 11) := (xm4 106 rfl rfl)
set_option maxRecDepth 20000 in
theorem xYa_146 : xokYi (yX12_in, cX12_in, 3, some .boolean, 3, 12) := ⟨(xm6 193 rfl rfl), xcl_15.1, xcl_15.2.1, xcl_15.2.2.1, xcl_15.2.2.2, Nat.le_of_ble_eq_true rfl, by decide +kernel, Or.inl ⟨_, _, rfl⟩⟩
set_option maxRecDepth 20000 in
theorem xYv_146 : xokSi (yX12_in, cX12_in, 3, some .boolean, 3, 12) := (xm6 192 rfl rfl)
set_option maxRecDepth 20000 in
theorem xYa_147 : xokYi (yX12_has, cX12_has, 2, some .boolean, 2, 12) := ⟨(xm6 173 rfl rfl), xcl_15.1, xcl_15.2.1, xcl_15.2.2.1, xcl_15.2.2.2, Nat.le_of_ble_eq_true rfl, by decide +kernel, Or.inl ⟨_, _, rfl⟩⟩
set_option maxRecDepth 20000 in
theorem xYv_147 : xokSi (yX12_has, cX12_has, 2, some .boolean, 2, 12) := (xm6 172 rfl rfl)
set_option maxRecDepth 20000 in
theorem xYa_148 : xokYi (yX12_thrown, cX12_thrown, 1, some .int, 0, 12) := ⟨(xm6 133 rfl rfl), xcl_15.1, xcl_15.2.1, xcl_15.2.2.1, xcl_15.2.2.2, Nat.le_of_ble_eq_true rfl, by decide +kernel, Or.inl ⟨_, _, rfl⟩⟩
set_option maxRecDepth 20000 in
theorem xYv_148 : xokVi (yX12_thrown, cX12_thrown, 1, some .int, 0, 12) := ⟨(xm6 131 rfl rfl), (xm6 132 rfl rfl)⟩
set_option maxRecDepth 20000 in
theorem xYa_149 : xokYi (yX12_byteOf, cX12_byteOf, 7, some .int, 6, 12) := ⟨(xm6 140 rfl rfl), xcl_15.1, xcl_15.2.1, xcl_15.2.2.1, xcl_15.2.2.2, Nat.le_of_ble_eq_true rfl, by decide +kernel, Or.inl ⟨_, _, rfl⟩⟩
set_option maxRecDepth 20000 in
theorem xYv_149 : xokSi (yX12_byteOf, cX12_byteOf, 7, some .int, 6, 12) := (xm6 139 rfl rfl)
set_option maxRecDepth 20000 in
theorem xYa_150 : xokYi (yX12_feed, cX12_feed, 9, some .int, 5, 12) := ⟨(xm6 137 rfl rfl), xcl_15.1, xcl_15.2.1, xcl_15.2.2.1, xcl_15.2.2.2, Nat.le_of_ble_eq_true rfl, by decide +kernel, Or.inl ⟨_, _, rfl⟩⟩
set_option maxRecDepth 20000 in
theorem xYv_150 : xokVi (yX12_feed, cX12_feed, 9, some .int, 5, 12) := ⟨(xm6 135 rfl rfl), (xm6 136 rfl rfl)⟩
set_option maxRecDepth 20000 in
theorem xYa_151 : xokYi (yX12_end, cX12_end, 2, some .boolean, 1, 12) := ⟨(xm6 144 rfl rfl), xcl_15.1, xcl_15.2.1, xcl_15.2.2.1, xcl_15.2.2.2, Nat.le_of_ble_eq_true rfl, by decide +kernel, Or.inl ⟨_, _, rfl⟩⟩
set_option maxRecDepth 20000 in
theorem xYv_151 : xokVi (yX12_end, cX12_end, 2, some .boolean, 1, 12) := ⟨(xm6 142 rfl rfl), (xm6 143 rfl rfl)⟩
set_option maxRecDepth 20000 in
theorem xYa_152 : xokYi (yX12_here, cX12_here, 1, some .int, 0, 12) := ⟨(xm6 163 rfl rfl), xcl_15.1, xcl_15.2.1, xcl_15.2.2.1, xcl_15.2.2.2, Nat.le_of_ble_eq_true rfl, by decide +kernel, Or.inl ⟨_, _, rfl⟩⟩
set_option maxRecDepth 20000 in
theorem xYv_152 : xokVi (yX12_here, cX12_here, 1, some .int, 0, 12) := ⟨(xm6 162 rfl rfl), (xmP 42 rfl rfl)⟩
set_option maxRecDepth 20000 in
theorem xYa_153 : xokYi (yX12_look, cX12_look, 1, some .int, 0, 12) := ⟨(xm6 159 rfl rfl), xcl_15.1, xcl_15.2.1, xcl_15.2.2.1, xcl_15.2.2.2, Nat.le_of_ble_eq_true rfl, by decide +kernel, Or.inl ⟨_, _, rfl⟩⟩
set_option maxRecDepth 20000 in
theorem xYv_153 : xokVi (yX12_look, cX12_look, 1, some .int, 0, 12) := ⟨(xm6 158 rfl rfl), (xmP 41 rfl rfl)⟩
set_option maxRecDepth 20000 in
theorem xYa_154 : xokYi (yX12_bad, cX12_bad, 1, none, 0, 12) := ⟨(xm6 190 rfl rfl), xcl_15.1, xcl_15.2.1, xcl_15.2.2.1, xcl_15.2.2.2, Nat.le_of_ble_eq_true rfl, by decide +kernel, Or.inl ⟨_, _, rfl⟩⟩
set_option maxRecDepth 20000 in
theorem xYv_154 : xokVi (yX12_bad, cX12_bad, 1, none, 0, 12) := ⟨(xm6 189 rfl rfl), (xmP 45 rfl rfl)⟩
set_option maxRecDepth 20000 in
theorem xYa_155 : xokYi (yX12_isDigit, cX12_isDigit, 1, some .boolean, 1, 12) := ⟨(xm6 186 rfl rfl), xcl_15.1, xcl_15.2.1, xcl_15.2.2.1, xcl_15.2.2.2, Nat.le_of_ble_eq_true rfl, by decide +kernel, Or.inl ⟨_, _, rfl⟩⟩
set_option maxRecDepth 20000 in
theorem xYv_155 : xokSi (yX12_isDigit, cX12_isDigit, 1, some .boolean, 1, 12) := (xm6 185 rfl rfl)
set_option maxRecDepth 20000 in
theorem xYa_156 : xokYi (yX12_put, cX12_put, 3, none, 2, 12) := ⟨(xm6 225 rfl rfl), xcl_15.1, xcl_15.2.1, xcl_15.2.2.1, xcl_15.2.2.2, Nat.le_of_ble_eq_true rfl, by decide +kernel, Or.inl ⟨_, _, rfl⟩⟩
set_option maxRecDepth 20000 in
theorem xYv_156 : xokVi (yX12_put, cX12_put, 3, none, 2, 12) := ⟨(xm6 224 rfl rfl), (xmP 53 rfl rfl)⟩
set_option maxRecDepth 20000 in
theorem xYa_157 : xokYi (yX12_letterOf, cX12_letterOf, 1, some .int, 1, 12) := ⟨(xm7 8 rfl rfl), xcl_15.1, xcl_15.2.1, xcl_15.2.2.1, xcl_15.2.2.2, Nat.le_of_ble_eq_true rfl, by decide +kernel, Or.inl ⟨_, _, rfl⟩⟩
set_option maxRecDepth 20000 in
theorem xYv_157 : xokSi (yX12_letterOf, cX12_letterOf, 1, some .int, 1, 12) := (xm7 7 rfl rfl)
set_option maxRecDepth 20000 in
theorem xYa_158 : xokYi (yX12_opens, cX12_opens, 1, none, 0, 12) := ⟨(xm6 221 rfl rfl), xcl_15.1, xcl_15.2.1, xcl_15.2.2.1, xcl_15.2.2.2, Nat.le_of_ble_eq_true rfl, by decide +kernel, Or.inl ⟨_, _, rfl⟩⟩
set_option maxRecDepth 20000 in
theorem xYv_158 : xokVi (yX12_opens, cX12_opens, 1, none, 0, 12) := ⟨(xm6 220 rfl rfl), (xmP 52 rfl rfl)⟩
set_option maxRecDepth 20000 in
theorem xYa_159 : xokYi (yX12_closes, cX12_closes, 2, none, 1, 12) := ⟨(xm6 229 rfl rfl), xcl_15.1, xcl_15.2.1, xcl_15.2.2.1, xcl_15.2.2.2, Nat.le_of_ble_eq_true rfl, by decide +kernel, Or.inl ⟨_, _, rfl⟩⟩
set_option maxRecDepth 20000 in
theorem xYv_159 : xokVi (yX12_closes, cX12_closes, 2, none, 1, 12) := ⟨(xm6 228 rfl rfl), (xmP 54 rfl rfl)⟩
set_option maxRecDepth 20000 in
theorem xYa_160 : xokYi (yX12_plainNumber, cX12_plainNumber, 3, some .int, 0, 12) := ⟨(xm7 5 rfl rfl), xcl_15.1, xcl_15.2.1, xcl_15.2.2.1, xcl_15.2.2.2, Nat.le_of_ble_eq_true rfl, by decide +kernel, Or.inl ⟨_, _, rfl⟩⟩
set_option maxRecDepth 20000 in
theorem xYv_160 : xokVi (yX12_plainNumber, cX12_plainNumber, 3, some .int, 0, 12) := ⟨(xm7 4 rfl rfl), (xmP 58 rfl rfl)⟩
set_option maxRecDepth 20000 in
theorem xYa_161 : xokYi (yX12_atom, cX12_atom, 2, none, 0, 12) := ⟨(xm7 1 rfl rfl), xcl_15.1, xcl_15.2.1, xcl_15.2.2.1, xcl_15.2.2.2, Nat.le_of_ble_eq_true rfl, by decide +kernel, Or.inl ⟨_, _, rfl⟩⟩
set_option maxRecDepth 20000 in
theorem xYv_161 : xokVi (yX12_atom, cX12_atom, 2, none, 0, 12) := ⟨(xm7 0 rfl rfl), (xmP 57 rfl rfl)⟩
set_option maxRecDepth 20000 in
theorem xYa_162 : xokYi (yX12_term, cX12_term, 2, none, 0, 12) := ⟨(xm6 237 rfl rfl), xcl_15.1, xcl_15.2.1, xcl_15.2.2.1, xcl_15.2.2.2, Nat.le_of_ble_eq_true rfl, by decide +kernel, Or.inl ⟨_, _, rfl⟩⟩
set_option maxRecDepth 20000 in
theorem xYv_162 : xokVi (yX12_term, cX12_term, 2, none, 0, 12) := ⟨(xm6 236 rfl rfl), (xmP 56 rfl rfl)⟩
set_option maxRecDepth 20000 in
theorem xYa_163 : xokYi (yX12_sum, cX12_sum, 2, none, 0, 12) := ⟨(xm6 233 rfl rfl), xcl_15.1, xcl_15.2.1, xcl_15.2.2.1, xcl_15.2.2.2, Nat.le_of_ble_eq_true rfl, by decide +kernel, Or.inl ⟨_, _, rfl⟩⟩
set_option maxRecDepth 20000 in
theorem xYv_163 : xokVi (yX12_sum, cX12_sum, 2, none, 0, 12) := ⟨(xm6 232 rfl rfl), (xmP 55 rfl rfl)⟩
set_option maxRecDepth 20000 in
theorem xYa_164 : xokYi (yX12_isSign, cX12_isSign, 1, some .boolean, 1, 12) := ⟨(xm7 15 rfl rfl), xcl_15.1, xcl_15.2.1, xcl_15.2.2.1, xcl_15.2.2.2, Nat.le_of_ble_eq_true rfl, by decide +kernel, Or.inl ⟨_, _, rfl⟩⟩
set_option maxRecDepth 20000 in
theorem xYv_164 : xokSi (yX12_isSign, cX12_isSign, 1, some .boolean, 1, 12) := (xm7 14 rfl rfl)
set_option maxRecDepth 20000 in
theorem xYa_165 : xokYi (yX12_compare, cX12_compare, 2, none, 0, 12) := ⟨(xm7 12 rfl rfl), xcl_15.1, xcl_15.2.1, xcl_15.2.2.1, xcl_15.2.2.2, Nat.le_of_ble_eq_true rfl, by decide +kernel, Or.inl ⟨_, _, rfl⟩⟩
set_option maxRecDepth 20000 in
theorem xYv_165 : xokVi (yX12_compare, cX12_compare, 2, none, 0, 12) := ⟨(xm7 11 rfl rfl), (xmP 59 rfl rfl)⟩
set_option maxRecDepth 20000 in
theorem xYa_166 : xokYi (yX12_unit, cX12_unit, 2, none, 0, 12) := ⟨(xm6 217 rfl rfl), xcl_15.1, xcl_15.2.1, xcl_15.2.2.1, xcl_15.2.2.2, Nat.le_of_ble_eq_true rfl, by decide +kernel, Or.inl ⟨_, _, rfl⟩⟩
set_option maxRecDepth 20000 in
theorem xYv_166 : xokVi (yX12_unit, cX12_unit, 2, none, 0, 12) := ⟨(xm6 216 rfl rfl), (xmP 51 rfl rfl)⟩
set_option maxRecDepth 20000 in
theorem xYa_167 : xokYi (yX12_goOnAnd, cX12_goOnAnd, 1, none, 0, 12) := ⟨(xm7 19 rfl rfl), xcl_15.1, xcl_15.2.1, xcl_15.2.2.1, xcl_15.2.2.2, Nat.le_of_ble_eq_true rfl, by decide +kernel, Or.inl ⟨_, _, rfl⟩⟩
set_option maxRecDepth 20000 in
theorem xYv_167 : xokVi (yX12_goOnAnd, cX12_goOnAnd, 1, none, 0, 12) := ⟨(xm7 18 rfl rfl), (xmP 60 rfl rfl)⟩
set_option maxRecDepth 20000 in
theorem xYa_168 : xokYi (yX12_goOnOr, cX12_goOnOr, 1, none, 0, 12) := ⟨(xm7 23 rfl rfl), xcl_15.1, xcl_15.2.1, xcl_15.2.2.1, xcl_15.2.2.2, Nat.le_of_ble_eq_true rfl, by decide +kernel, Or.inl ⟨_, _, rfl⟩⟩
set_option maxRecDepth 20000 in
theorem xYv_168 : xokVi (yX12_goOnOr, cX12_goOnOr, 1, none, 0, 12) := ⟨(xm7 22 rfl rfl), (xmP 61 rfl rfl)⟩
set_option maxRecDepth 20000 in
theorem xYa_169 : xokYi (yX12_condition, cX12_condition, 1, none, 0, 12) := ⟨(xm6 213 rfl rfl), xcl_15.1, xcl_15.2.1, xcl_15.2.2.1, xcl_15.2.2.2, Nat.le_of_ble_eq_true rfl, by decide +kernel, Or.inl ⟨_, _, rfl⟩⟩
set_option maxRecDepth 20000 in
theorem xYv_169 : xokVi (yX12_condition, cX12_condition, 1, none, 0, 12) := ⟨(xm6 212 rfl rfl), (xmP 50 rfl rfl)⟩
set_option maxRecDepth 20000 in
theorem xYa_170 : xokYi (yX12_clause, cX12_clause, 3, none, 0, 12) := ⟨(xm6 209 rfl rfl), xcl_15.1, xcl_15.2.1, xcl_15.2.2.1, xcl_15.2.2.2, Nat.le_of_ble_eq_true rfl, by decide +kernel, Or.inl ⟨_, _, rfl⟩⟩
set_option maxRecDepth 20000 in
theorem xYv_170 : xokVi (yX12_clause, cX12_clause, 3, none, 0, 12) := ⟨(xm6 208 rfl rfl), (xmP 49 rfl rfl)⟩
set_option maxRecDepth 20000 in
theorem xYa_171 : xokYi (yX12_open, cX12_open, 2, none, 1, 12) := ⟨(xm6 205 rfl rfl), xcl_15.1, xcl_15.2.1, xcl_15.2.2.1, xcl_15.2.2.2, Nat.le_of_ble_eq_true rfl, by decide +kernel, Or.inl ⟨_, _, rfl⟩⟩
set_option maxRecDepth 20000 in
theorem xYv_171 : xokVi (yX12_open, cX12_open, 2, none, 1, 12) := ⟨(xm6 204 rfl rfl), (xmP 48 rfl rfl)⟩
set_option maxRecDepth 20000 in
theorem xYa_172 : xokYi (yX12_atEnd, cX12_atEnd, 1, some .int, 0, 12) := ⟨(xm7 27 rfl rfl), xcl_15.1, xcl_15.2.1, xcl_15.2.2.1, xcl_15.2.2.2, Nat.le_of_ble_eq_true rfl, by decide +kernel, Or.inl ⟨_, _, rfl⟩⟩
set_option maxRecDepth 20000 in
theorem xYv_172 : xokVi (yX12_atEnd, cX12_atEnd, 1, some .int, 0, 12) := ⟨(xm7 26 rfl rfl), (xmP 62 rfl rfl)⟩
set_option maxRecDepth 20000 in
theorem xYa_173 : xokYi (yX12_readLaw, cX12_readLaw, 2, some .int, 1, 12) := ⟨(xm6 201 rfl rfl), xcl_15.1, xcl_15.2.1, xcl_15.2.2.1, xcl_15.2.2.2, Nat.le_of_ble_eq_true rfl, by decide +kernel, Or.inl ⟨_, _, rfl⟩⟩
set_option maxRecDepth 20000 in
theorem xYv_173 : xokVi (yX12_readLaw, cX12_readLaw, 2, some .int, 1, 12) := ⟨(xm6 200 rfl rfl), (xmP 47 rfl rfl)⟩
set_option maxRecDepth 20000 in
theorem xYa_174 : xokYi (yX12_bounded, cX12_bounded, 2, some .int, 1, 12) := ⟨(xm7 89 rfl rfl), xcl_15.1, xcl_15.2.1, xcl_15.2.2.1, xcl_15.2.2.2, Nat.le_of_ble_eq_true rfl, by decide +kernel, Or.inl ⟨_, _, rfl⟩⟩
set_option maxRecDepth 20000 in
theorem xYv_174 : xokSi (yX12_bounded, cX12_bounded, 2, some .int, 1, 12) := (xm7 88 rfl rfl)
set_option maxRecDepth 20000 in
theorem xYa_175 : xokYi (yX12_worked, cX12_worked, 5, some .int, 3, 12) := ⟨(xm7 86 rfl rfl), xcl_15.1, xcl_15.2.1, xcl_15.2.2.1, xcl_15.2.2.2, Nat.le_of_ble_eq_true rfl, by decide +kernel, Or.inl ⟨_, _, rfl⟩⟩
set_option maxRecDepth 20000 in
theorem xYv_175 : xokSi (yX12_worked, cX12_worked, 5, some .int, 3, 12) := (xm7 85 rfl rfl)
set_option maxRecDepth 20000 in
theorem xYa_176 : xokYi (yX12_workOut, cX12_workOut, 6, some .int, 3, 12) := ⟨(xm7 83 rfl rfl), xcl_15.1, xcl_15.2.1, xcl_15.2.2.1, xcl_15.2.2.2, Nat.le_of_ble_eq_true rfl, by decide +kernel, Or.inl ⟨_, _, rfl⟩⟩
set_option maxRecDepth 20000 in
theorem xYv_176 : xokVi (yX12_workOut, cX12_workOut, 6, some .int, 3, 12) := ⟨(xm7 82 rfl rfl), (xmP 73 rfl rfl)⟩
set_option maxRecDepth 20000 in
theorem xYa_177 : xokYi (yX12_worthOf, cX12_worthOf, 3, some .int, 1, 12) := ⟨(xm7 79 rfl rfl), xcl_15.1, xcl_15.2.1, xcl_15.2.2.1, xcl_15.2.2.2, Nat.le_of_ble_eq_true rfl, by decide +kernel, Or.inl ⟨_, _, rfl⟩⟩
set_option maxRecDepth 20000 in
theorem xYv_177 : xokVi (yX12_worthOf, cX12_worthOf, 3, some .int, 1, 12) := ⟨(xm7 78 rfl rfl), (xmP 72 rfl rfl)⟩
set_option maxRecDepth 20000 in
theorem xYa_178 : xokYi (yX12_number, cX12_number, 4, some .int, 2, 12) := ⟨(xm6 183 rfl rfl), xcl_15.1, xcl_15.2.1, xcl_15.2.2.1, xcl_15.2.2.2, Nat.le_of_ble_eq_true rfl, by decide +kernel, Or.inl ⟨_, _, rfl⟩⟩
set_option maxRecDepth 20000 in
theorem xYv_178 : xokVi (yX12_number, cX12_number, 4, some .int, 2, 12) := ⟨(xm6 182 rfl rfl), (xmP 44 rfl rfl)⟩
set_option maxRecDepth 20000 in
theorem xYa_179 : xokYi (yX12_itemOf, cX12_itemOf, 2, some .int, 2, 12) := ⟨(xm6 170 rfl rfl), xcl_15.1, xcl_15.2.1, xcl_15.2.2.1, xcl_15.2.2.2, Nat.le_of_ble_eq_true rfl, by decide +kernel, Or.inl ⟨_, _, rfl⟩⟩
set_option maxRecDepth 20000 in
theorem xYv_179 : xokSi (yX12_itemOf, cX12_itemOf, 2, some .int, 2, 12) := (xm6 169 rfl rfl)
set_option maxRecDepth 20000 in
theorem xYa_180 : xokYi (yX12_lowest, cX12_lowest, 2, some .int, 2, 12) := ⟨(xm6 176 rfl rfl), xcl_15.1, xcl_15.2.1, xcl_15.2.2.1, xcl_15.2.2.2, Nat.le_of_ble_eq_true rfl, by decide +kernel, Or.inl ⟨_, _, rfl⟩⟩
set_option maxRecDepth 20000 in
theorem xYv_180 : xokSi (yX12_lowest, cX12_lowest, 2, some .int, 2, 12) := (xm6 175 rfl rfl)
set_option maxRecDepth 20000 in
theorem xYa_181 : xokYi (yX12_highest, cX12_highest, 2, some .int, 2, 12) := ⟨(xm6 179 rfl rfl), xcl_15.1, xcl_15.2.1, xcl_15.2.2.1, xcl_15.2.2.2, Nat.le_of_ble_eq_true rfl, by decide +kernel, Or.inl ⟨_, _, rfl⟩⟩
set_option maxRecDepth 20000 in
theorem xYv_181 : xokSi (yX12_highest, cX12_highest, 2, some .int, 2, 12) := (xm6 178 rfl rfl)
set_option maxRecDepth 20000 in
theorem xYa_182 : xokYi (yX12_usual, cX12_usual, 2, some .int, 2, 12) := ⟨(xm6 155 rfl rfl), xcl_15.1, xcl_15.2.1, xcl_15.2.2.1, xcl_15.2.2.2, Nat.le_of_ble_eq_true rfl, by decide +kernel, Or.inl ⟨_, _, rfl⟩⟩
set_option maxRecDepth 20000 in
theorem xYv_182 : xokSi (yX12_usual, cX12_usual, 2, some .int, 2, 12) := (xm6 154 rfl rfl)
set_option maxRecDepth 20000 in
theorem xYa_183 : xokYi (yX12_items, cX12_items, 7, none, 4, 12) := ⟨(xm6 167 rfl rfl), xcl_15.1, xcl_15.2.1, xcl_15.2.2.1, xcl_15.2.2.2, Nat.le_of_ble_eq_true rfl, by decide +kernel, Or.inl ⟨_, _, rfl⟩⟩
set_option maxRecDepth 20000 in
theorem xYv_183 : xokVi (yX12_items, cX12_items, 7, none, 4, 12) := ⟨(xm6 166 rfl rfl), (xmP 43 rfl rfl)⟩
set_option maxRecDepth 20000 in
theorem xYa_184 : xokYi (yX12_isWhole, cX12_isWhole, 3, some .boolean, 0, 12) := ⟨(xm6 197 rfl rfl), xcl_15.1, xcl_15.2.1, xcl_15.2.2.1, xcl_15.2.2.2, Nat.le_of_ble_eq_true rfl, by decide +kernel, Or.inl ⟨_, _, rfl⟩⟩
set_option maxRecDepth 20000 in
theorem xYv_184 : xokVi (yX12_isWhole, cX12_isWhole, 3, some .boolean, 0, 12) := ⟨(xm6 196 rfl rfl), (xmP 46 rfl rfl)⟩
set_option maxRecDepth 20000 in
theorem xYa_185 : xokYi (yX12_readCity, cX12_readCity, 4, some .int, 0, 12) := ⟨(xm6 152 rfl rfl), xcl_15.1, xcl_15.2.1, xcl_15.2.2.1, xcl_15.2.2.2, Nat.le_of_ble_eq_true rfl, by decide +kernel, Or.inl ⟨_, _, rfl⟩⟩
set_option maxRecDepth 20000 in
theorem xYv_185 : xokVi (yX12_readCity, cX12_readCity, 4, some .int, 0, 12) := ⟨(xm6 151 rfl rfl), (xmP 40 rfl rfl)⟩
set_option maxRecDepth 20000 in
theorem xYa_186 : xokYi (yX12_fault, cX12_fault, 2, some .int, 1, 12) := ⟨(xm6 148 rfl rfl), xcl_15.1, xcl_15.2.1, xcl_15.2.2.1, xcl_15.2.2.2, Nat.le_of_ble_eq_true rfl, by decide +kernel, Or.inl ⟨_, _, rfl⟩⟩
set_option maxRecDepth 20000 in
theorem xYv_186 : xokVi (yX12_fault, cX12_fault, 2, some .int, 1, 12) := ⟨(xm6 146 rfl rfl), (xm6 147 rfl rfl)⟩
set_option maxRecDepth 20000 in
theorem xYa_187 : xokYi (yX12_takeCity, cX12_takeCity, 2, some .int, 0, 12) := ⟨(xm7 35 rfl rfl), xcl_15.1, xcl_15.2.1, xcl_15.2.2.1, xcl_15.2.2.2, Nat.le_of_ble_eq_true rfl, by decide +kernel, Or.inl ⟨_, _, rfl⟩⟩
set_option maxRecDepth 20000 in
theorem xYv_187 : xokVi (yX12_takeCity, cX12_takeCity, 2, some .int, 0, 12) := ⟨(xm7 34 rfl rfl), (xmP 63 rfl rfl)⟩
set_option maxRecDepth 20000 in
theorem xYa_188 : xokYi (yX12_hush, cX12_hush, 2, none, 0, 12) := ⟨(xm7 39 rfl rfl), xcl_15.1, xcl_15.2.1, xcl_15.2.2.1, xcl_15.2.2.2, Nat.le_of_ble_eq_true rfl, by decide +kernel, Or.inl ⟨_, _, rfl⟩⟩
set_option maxRecDepth 20000 in
theorem xYv_188 : xokVi (yX12_hush, cX12_hush, 2, none, 0, 12) := ⟨(xm7 38 rfl rfl), (xmP 64 rfl rfl)⟩
set_option maxRecDepth 20000 in
theorem xYa_189 : xokYi (yX12_text, cX12_text, 2, some .int, 1, 12) := ⟨(xm7 31 rfl rfl), xcl_15.1, xcl_15.2.1, xcl_15.2.2.1, xcl_15.2.2.2, Nat.le_of_ble_eq_true rfl, by decide +kernel, Or.inl ⟨_, _, rfl⟩⟩
set_option maxRecDepth 20000 in
theorem xYv_189 : xokVi (yX12_text, cX12_text, 2, some .int, 1, 12) := ⟨(xm7 29 rfl rfl), (xm7 30 rfl rfl)⟩
set_option maxRecDepth 20000 in
theorem xYa_190 : xokYi (yX12_isName, cX12_isName, 2, some .boolean, 1, 12) := ⟨(xm7 51 rfl rfl), xcl_15.1, xcl_15.2.1, xcl_15.2.2.1, xcl_15.2.2.2, Nat.le_of_ble_eq_true rfl, by decide +kernel, Or.inl ⟨_, _, rfl⟩⟩
set_option maxRecDepth 20000 in
theorem xYv_190 : xokVi (yX12_isName, cX12_isName, 2, some .boolean, 1, 12) := ⟨(xm7 50 rfl rfl), (xmP 65 rfl rfl)⟩
set_option maxRecDepth 20000 in
theorem xYa_191 : xokYi (yX12_stands, cX12_stands, 2, some .boolean, 1, 12) := ⟨(xm7 103 rfl rfl), xcl_15.1, xcl_15.2.1, xcl_15.2.2.1, xcl_15.2.2.2, Nat.le_of_ble_eq_true rfl, by decide +kernel, Or.inl ⟨_, _, rfl⟩⟩
set_option maxRecDepth 20000 in
theorem xYv_191 : xokVi (yX12_stands, cX12_stands, 2, some .boolean, 1, 12) := ⟨(xm7 102 rfl rfl), (xmP 74 rfl rfl)⟩
set_option maxRecDepth 20000 in
theorem xYa_192 : xokYi (yX12_standing, cX12_standing, 3, some .int, 0, 12) := ⟨(xm7 183 rfl rfl), xcl_15.1, xcl_15.2.1, xcl_15.2.2.1, xcl_15.2.2.2, Nat.le_of_ble_eq_true rfl, by decide +kernel, Or.inl ⟨_, _, rfl⟩⟩
set_option maxRecDepth 20000 in
theorem xYv_192 : xokVi (yX12_standing, cX12_standing, 3, some .int, 0, 12) := ⟨(xm7 182 rfl rfl), (xmP 88 rfl rfl)⟩
set_option maxRecDepth 20000 in
theorem xYa_193 : xokYi (yX12_of, cX12_of, 3, some .int, 2, 12) := ⟨(xm7 75 rfl rfl), xcl_15.1, xcl_15.2.1, xcl_15.2.2.1, xcl_15.2.2.2, Nat.le_of_ble_eq_true rfl, by decide +kernel, Or.inl ⟨_, _, rfl⟩⟩
set_option maxRecDepth 20000 in
theorem xYv_193 : xokVi (yX12_of, cX12_of, 3, some .int, 2, 12) := ⟨(xm7 74 rfl rfl), (xmP 71 rfl rfl)⟩
set_option maxRecDepth 20000 in
theorem xYa_194 : xokYi (yX12_areTied, cX12_areTied, 3, some .boolean, 2, 12) := ⟨(xm7 127 rfl rfl), xcl_15.1, xcl_15.2.1, xcl_15.2.2.1, xcl_15.2.2.2, Nat.le_of_ble_eq_true rfl, by decide +kernel, Or.inl ⟨_, _, rfl⟩⟩
set_option maxRecDepth 20000 in
theorem xYv_194 : xokVi (yX12_areTied, cX12_areTied, 3, some .boolean, 2, 12) := ⟨(xm7 126 rfl rfl), (xmP 78 rfl rfl)⟩
set_option maxRecDepth 20000 in
theorem xYa_195 : xokYi (yX12_areLike, cX12_areLike, 3, some .boolean, 2, 12) := ⟨(xm7 115 rfl rfl), xcl_15.1, xcl_15.2.1, xcl_15.2.2.1, xcl_15.2.2.2, Nat.le_of_ble_eq_true rfl, by decide +kernel, Or.inl ⟨_, _, rfl⟩⟩
set_option maxRecDepth 20000 in
theorem xYv_195 : xokVi (yX12_areLike, cX12_areLike, 3, some .boolean, 2, 12) := ⟨(xm7 114 rfl rfl), (xmP 77 rfl rfl)⟩
set_option maxRecDepth 20000 in
theorem xYa_196 : xokYi (yX12_voiceOf, cX12_voiceOf, 2, some .int, 1, 12) := ⟨(xm7 111 rfl rfl), xcl_15.1, xcl_15.2.1, xcl_15.2.2.1, xcl_15.2.2.2, Nat.le_of_ble_eq_true rfl, by decide +kernel, Or.inl ⟨_, _, rfl⟩⟩
set_option maxRecDepth 20000 in
theorem xYv_196 : xokVi (yX12_voiceOf, cX12_voiceOf, 2, some .int, 1, 12) := ⟨(xm7 110 rfl rfl), (xmP 76 rfl rfl)⟩
set_option maxRecDepth 20000 in
theorem xYa_197 : xokYi (yX12_costOf, cX12_costOf, 3, some .int, 2, 12) := ⟨(xm7 139 rfl rfl), xcl_15.1, xcl_15.2.1, xcl_15.2.2.1, xcl_15.2.2.2, Nat.le_of_ble_eq_true rfl, by decide +kernel, Or.inl ⟨_, _, rfl⟩⟩
set_option maxRecDepth 20000 in
theorem xYv_197 : xokVi (yX12_costOf, cX12_costOf, 3, some .int, 2, 12) := ⟨(xm7 138 rfl rfl), (xmP 80 rfl rfl)⟩
set_option maxRecDepth 20000 in
theorem xYa_198 : xokYi (yX12_inHour, cX12_inHour, 4, some .int, 1, 12) := ⟨(xm7 67 rfl rfl), xcl_15.1, xcl_15.2.1, xcl_15.2.2.1, xcl_15.2.2.2, Nat.le_of_ble_eq_true rfl, by decide +kernel, Or.inl ⟨_, _, rfl⟩⟩
set_option maxRecDepth 20000 in
theorem xYv_198 : xokVi (yX12_inHour, cX12_inHour, 4, some .int, 1, 12) := ⟨(xm7 66 rfl rfl), (xmP 69 rfl rfl)⟩
set_option maxRecDepth 20000 in
theorem xYa_199 : xokYi (yX12_isHeard, cX12_isHeard, 2, some .boolean, 1, 12) := ⟨(xm7 63 rfl rfl), xcl_15.1, xcl_15.2.1, xcl_15.2.2.1, xcl_15.2.2.2, Nat.le_of_ble_eq_true rfl, by decide +kernel, Or.inl ⟨_, _, rfl⟩⟩
set_option maxRecDepth 20000 in
theorem xYv_199 : xokVi (yX12_isHeard, cX12_isHeard, 2, some .boolean, 1, 12) := ⟨(xm7 62 rfl rfl), (xmP 68 rfl rfl)⟩
set_option maxRecDepth 20000 in
theorem xYa_200 : xokYi (yX12_shoutsOf, cX12_shoutsOf, 4, some .int, 1, 12) := ⟨(xm7 59 rfl rfl), xcl_15.1, xcl_15.2.1, xcl_15.2.2.1, xcl_15.2.2.2, Nat.le_of_ble_eq_true rfl, by decide +kernel, Or.inl ⟨_, _, rfl⟩⟩
set_option maxRecDepth 20000 in
theorem xYv_200 : xokVi (yX12_shoutsOf, cX12_shoutsOf, 4, some .int, 1, 12) := ⟨(xm7 58 rfl rfl), (xmP 67 rfl rfl)⟩
set_option maxRecDepth 20000 in
theorem xYa_201 : xokYi (yX12_heardMany, cX12_heardMany, 3, some .int, 0, 12) := ⟨(xm7 179 rfl rfl), xcl_15.1, xcl_15.2.1, xcl_15.2.2.1, xcl_15.2.2.2, Nat.le_of_ble_eq_true rfl, by decide +kernel, Or.inl ⟨_, _, rfl⟩⟩
set_option maxRecDepth 20000 in
theorem xYv_201 : xokVi (yX12_heardMany, cX12_heardMany, 3, some .int, 0, 12) := ⟨(xm7 178 rfl rfl), (xmP 87 rfl rfl)⟩
set_option maxRecDepth 20000 in
theorem xYa_202 : xokYi (yX12_gain, cX12_gain, 4, some .int, 1, 12) := ⟨(xm7 107 rfl rfl), xcl_15.1, xcl_15.2.1, xcl_15.2.2.1, xcl_15.2.2.2, Nat.le_of_ble_eq_true rfl, by decide +kernel, Or.inl ⟨_, _, rfl⟩⟩
set_option maxRecDepth 20000 in
theorem xYv_202 : xokVi (yX12_gain, cX12_gain, 4, some .int, 1, 12) := ⟨(xm7 106 rfl rfl), (xmP 75 rfl rfl)⟩
set_option maxRecDepth 20000 in
theorem xYa_203 : xokYi (yX12_lossBy, cX12_lossBy, 6, some .int, 4, 12) := ⟨(xm7 71 rfl rfl), xcl_15.1, xcl_15.2.1, xcl_15.2.2.1, xcl_15.2.2.2, Nat.le_of_ble_eq_true rfl, by decide +kernel, Or.inl ⟨_, _, rfl⟩⟩
set_option maxRecDepth 20000 in
theorem xYv_203 : xokVi (yX12_lossBy, cX12_lossBy, 6, some .int, 4, 12) := ⟨(xm7 70 rfl rfl), (xmP 70 rfl rfl)⟩
set_option maxRecDepth 20000 in
theorem xYa_204 : xokYi (yX12_lossNow, cX12_lossNow, 2, some .int, 1, 12) := ⟨(xm7 55 rfl rfl), xcl_15.1, xcl_15.2.1, xcl_15.2.2.1, xcl_15.2.2.2, Nat.le_of_ble_eq_true rfl, by decide +kernel, Or.inl ⟨_, _, rfl⟩⟩
set_option maxRecDepth 20000 in
theorem xYv_204 : xokVi (yX12_lossNow, cX12_lossNow, 2, some .int, 1, 12) := ⟨(xm7 54 rfl rfl), (xmP 66 rfl rfl)⟩
set_option maxRecDepth 20000 in
theorem xYa_205 : xokYi (yX12_heldIn, cX12_heldIn, 2, some .int, 1, 12) := ⟨(xm7 175 rfl rfl), xcl_15.1, xcl_15.2.1, xcl_15.2.2.1, xcl_15.2.2.2, Nat.le_of_ble_eq_true rfl, by decide +kernel, Or.inl ⟨_, _, rfl⟩⟩
set_option maxRecDepth 20000 in
theorem xYv_205 : xokVi (yX12_heldIn, cX12_heldIn, 2, some .int, 1, 12) := ⟨(xm7 174 rfl rfl), (xmP 86 rfl rfl)⟩
set_option maxRecDepth 20000 in
theorem xYa_206 : xokYi (yX12_square, cX12_square, 2, some .int, 1, 12) := ⟨(xm7 43 rfl rfl), xcl_15.1, xcl_15.2.1, xcl_15.2.2.1, xcl_15.2.2.2, Nat.le_of_ble_eq_true rfl, by decide +kernel, Or.inl ⟨_, _, rfl⟩⟩
set_option maxRecDepth 20000 in
theorem xYv_206 : xokVi (yX12_square, cX12_square, 2, some .int, 1, 12) := ⟨(xm7 41 rfl rfl), (xm7 42 rfl rfl)⟩
set_option maxRecDepth 20000 in
theorem xYa_207 : xokYi (yX12_name, cX12_name, 3, some .int, 2, 12) := ⟨(xm7 47 rfl rfl), xcl_15.1, xcl_15.2.1, xcl_15.2.2.1, xcl_15.2.2.2, Nat.le_of_ble_eq_true rfl, by decide +kernel, Or.inl ⟨_, _, rfl⟩⟩
set_option maxRecDepth 20000 in
theorem xYv_207 : xokVi (yX12_name, cX12_name, 3, some .int, 2, 12) := ⟨(xm7 45 rfl rfl), (xm7 46 rfl rfl)⟩
set_option maxRecDepth 20000 in
theorem xYa_208 : xokYi (yX12_law, cX12_law, 2, some .boolean, 1, 12) := ⟨(xm7 119 rfl rfl), xcl_15.1, xcl_15.2.1, xcl_15.2.2.1, xcl_15.2.2.2, Nat.le_of_ble_eq_true rfl, by decide +kernel, Or.inl ⟨_, _, rfl⟩⟩
set_option maxRecDepth 20000 in
theorem xYv_208 : xokVi (yX12_law, cX12_law, 2, some .boolean, 1, 12) := ⟨(xm7 117 rfl rfl), (xm7 118 rfl rfl)⟩
set_option maxRecDepth 20000 in
theorem xYa_209 : xokYi (yX12_tied, cX12_tied, 3, some .int, 2, 12) := ⟨(xm7 123 rfl rfl), xcl_15.1, xcl_15.2.1, xcl_15.2.2.1, xcl_15.2.2.2, Nat.le_of_ble_eq_true rfl, by decide +kernel, Or.inl ⟨_, _, rfl⟩⟩
set_option maxRecDepth 20000 in
theorem xYv_209 : xokVi (yX12_tied, cX12_tied, 3, some .int, 2, 12) := ⟨(xm7 121 rfl rfl), (xm7 122 rfl rfl)⟩
set_option maxRecDepth 20000 in
theorem xYa_210 : xokYi (yX12_keepRow, cX12_keepRow, 2, none, 0, 12) := ⟨(xm7 143 rfl rfl), xcl_15.1, xcl_15.2.1, xcl_15.2.2.1, xcl_15.2.2.2, Nat.le_of_ble_eq_true rfl, by decide +kernel, Or.inl ⟨_, _, rfl⟩⟩
set_option maxRecDepth 20000 in
theorem xYv_210 : xokVi (yX12_keepRow, cX12_keepRow, 2, none, 0, 12) := ⟨(xm7 142 rfl rfl), (xmP 81 rfl rfl)⟩
set_option maxRecDepth 20000 in
theorem xYa_211 : xokYi (yX12_canShout, cX12_canShout, 2, some .boolean, 1, 12) := ⟨(xm7 135 rfl rfl), xcl_15.1, xcl_15.2.1, xcl_15.2.2.1, xcl_15.2.2.2, Nat.le_of_ble_eq_true rfl, by decide +kernel, Or.inl ⟨_, _, rfl⟩⟩
set_option maxRecDepth 20000 in
theorem xYv_211 : xokVi (yX12_canShout, cX12_canShout, 2, some .boolean, 1, 12) := ⟨(xm7 134 rfl rfl), (xmP 79 rfl rfl)⟩
set_option maxRecDepth 20000 in
theorem xYa_212 : xokYi (yX12_shoutNow, cX12_shoutNow, 4, none, 3, 12) := ⟨(xm7 147 rfl rfl), xcl_15.1, xcl_15.2.1, xcl_15.2.2.1, xcl_15.2.2.2, Nat.le_of_ble_eq_true rfl, by decide +kernel, Or.inl ⟨_, _, rfl⟩⟩
set_option maxRecDepth 20000 in
theorem xYv_212 : xokVi (yX12_shoutNow, cX12_shoutNow, 4, none, 3, 12) := ⟨(xm7 146 rfl rfl), (xmP 82 rfl rfl)⟩
set_option maxRecDepth 20000 in
theorem xYa_213 : xokYi (yX12_shout, cX12_shout, 4, some .int, 3, 12) := ⟨(xm7 131 rfl rfl), xcl_15.1, xcl_15.2.1, xcl_15.2.2.1, xcl_15.2.2.2, Nat.le_of_ble_eq_true rfl, by decide +kernel, Or.inl ⟨_, _, rfl⟩⟩
set_option maxRecDepth 20000 in
theorem xYv_213 : xokVi (yX12_shout, cX12_shout, 4, some .int, 3, 12) := ⟨(xm7 129 rfl rfl), (xm7 130 rfl rfl)⟩
set_option maxRecDepth 20000 in
theorem xYa_214 : xokYi (yX12_fog, cX12_fog, 2, some .boolean, 1, 12) := ⟨(xm7 151 rfl rfl), xcl_15.1, xcl_15.2.1, xcl_15.2.2.1, xcl_15.2.2.2, Nat.le_of_ble_eq_true rfl, by decide +kernel, Or.inl ⟨_, _, rfl⟩⟩
set_option maxRecDepth 20000 in
theorem xYv_214 : xokVi (yX12_fog, cX12_fog, 2, some .boolean, 1, 12) := ⟨(xm7 149 rfl rfl), (xm7 150 rfl rfl)⟩
set_option maxRecDepth 20000 in
theorem xYa_215 : xokYi (yX12_hoarse, cX12_hoarse, 2, some .boolean, 1, 12) := ⟨(xm7 155 rfl rfl), xcl_15.1, xcl_15.2.1, xcl_15.2.2.1, xcl_15.2.2.2, Nat.le_of_ble_eq_true rfl, by decide +kernel, Or.inl ⟨_, _, rfl⟩⟩
set_option maxRecDepth 20000 in
theorem xYv_215 : xokVi (yX12_hoarse, cX12_hoarse, 2, some .boolean, 1, 12) := ⟨(xm7 153 rfl rfl), (xm7 154 rfl rfl)⟩
set_option maxRecDepth 20000 in
theorem xYa_216 : xokYi (yX12_sumOf, cX12_sumOf, 4, some .int, 1, 12) := ⟨(xm7 187 rfl rfl), xcl_15.1, xcl_15.2.1, xcl_15.2.2.1, xcl_15.2.2.2, Nat.le_of_ble_eq_true rfl, by decide +kernel, Or.inl ⟨_, _, rfl⟩⟩
set_option maxRecDepth 20000 in
theorem xYv_216 : xokVi (yX12_sumOf, cX12_sumOf, 4, some .int, 1, 12) := ⟨(xm7 186 rfl rfl), (xmP 89 rfl rfl)⟩
set_option maxRecDepth 20000 in
theorem xYa_217 : xokYi (yX12_layThen, cX12_layThen, 2, none, 0, 12) := ⟨(xm7 171 rfl rfl), xcl_15.1, xcl_15.2.1, xcl_15.2.2.1, xcl_15.2.2.2, Nat.le_of_ble_eq_true rfl, by decide +kernel, Or.inl ⟨_, _, rfl⟩⟩
set_option maxRecDepth 20000 in
theorem xYv_217 : xokVi (yX12_layThen, cX12_layThen, 2, none, 0, 12) := ⟨(xm7 170 rfl rfl), (xmP 85 rfl rfl)⟩
set_option maxRecDepth 20000 in
theorem xYa_218 : xokYi (yX12_dusk, cX12_dusk, 4, none, 0, 12) := ⟨(xm7 167 rfl rfl), xcl_15.1, xcl_15.2.1, xcl_15.2.2.1, xcl_15.2.2.2, Nat.le_of_ble_eq_true rfl, by decide +kernel, Or.inl ⟨_, _, rfl⟩⟩
set_option maxRecDepth 20000 in
theorem xYv_218 : xokVi (yX12_dusk, cX12_dusk, 4, none, 0, 12) := ⟨(xm7 166 rfl rfl), (xmP 84 rfl rfl)⟩
set_option maxRecDepth 20000 in
theorem xYa_219 : xokYi (yX12_areDays, cX12_areDays, 2, some .boolean, 1, 12) := ⟨(xm7 163 rfl rfl), xcl_15.1, xcl_15.2.1, xcl_15.2.2.1, xcl_15.2.2.2, Nat.le_of_ble_eq_true rfl, by decide +kernel, Or.inl ⟨_, _, rfl⟩⟩
set_option maxRecDepth 20000 in
theorem xYv_219 : xokVi (yX12_areDays, cX12_areDays, 2, some .boolean, 1, 12) := ⟨(xm7 162 rfl rfl), (xmP 83 rfl rfl)⟩
set_option maxRecDepth 20000 in
theorem xYa_220 : xokYi (yX12_evening, cX12_evening, 3, some .int, 1, 12) := ⟨(xm7 159 rfl rfl), xcl_15.1, xcl_15.2.1, xcl_15.2.2.1, xcl_15.2.2.2, Nat.le_of_ble_eq_true rfl, by decide +kernel, Or.inl ⟨_, _, rfl⟩⟩
set_option maxRecDepth 20000 in
theorem xYv_220 : xokVi (yX12_evening, cX12_evening, 3, some .int, 1, 12) := ⟨(xm7 157 rfl rfl), (xm7 158 rfl rfl)⟩
set_option maxRecDepth 20000 in
theorem xYa_221 : xokYi (yX12_fogs, cX12_fogs, 2, some .boolean, 1, 12) := ⟨(xm7 191 rfl rfl), xcl_15.1, xcl_15.2.1, xcl_15.2.2.1, xcl_15.2.2.2, Nat.le_of_ble_eq_true rfl, by decide +kernel, Or.inl ⟨_, _, rfl⟩⟩
set_option maxRecDepth 20000 in
theorem xYv_221 : xokVi (yX12_fogs, cX12_fogs, 2, some .boolean, 1, 12) := ⟨(xm7 189 rfl rfl), (xm7 190 rfl rfl)⟩
set_option maxRecDepth 20000 in
theorem xYa_222 : xokYi (yX12_colds, cX12_colds, 2, some .boolean, 1, 12) := ⟨(xm7 195 rfl rfl), xcl_15.1, xcl_15.2.1, xcl_15.2.2.1, xcl_15.2.2.2, Nat.le_of_ble_eq_true rfl, by decide +kernel, Or.inl ⟨_, _, rfl⟩⟩
set_option maxRecDepth 20000 in
theorem xYv_222 : xokVi (yX12_colds, cX12_colds, 2, some .boolean, 1, 12) := ⟨(xm7 193 rfl rfl), (xm7 194 rfl rfl)⟩
set_option maxRecDepth 20000 in
theorem xYa_223 : xokYi (yX12_draw, cX12_draw, 2, some .int, 1, 12) := ⟨(xm7 207 rfl rfl), xcl_15.1, xcl_15.2.1, xcl_15.2.2.1, xcl_15.2.2.2, Nat.le_of_ble_eq_true rfl, by decide +kernel, Or.inl ⟨_, _, rfl⟩⟩
set_option maxRecDepth 20000 in
theorem xYv_223 : xokVi (yX12_draw, cX12_draw, 2, some .int, 1, 12) := ⟨(xm7 206 rfl rfl), (xmP 91 rfl rfl)⟩
set_option maxRecDepth 20000 in
theorem xYa_224 : xokYi (yX12_lowestOf, cX12_lowestOf, 1, some .int, 1, 12) := ⟨(xm7 212 rfl rfl), xcl_15.1, xcl_15.2.1, xcl_15.2.2.1, xcl_15.2.2.2, Nat.le_of_ble_eq_true rfl, by decide +kernel, Or.inl ⟨_, _, rfl⟩⟩
set_option maxRecDepth 20000 in
theorem xYv_224 : xokSi (yX12_lowestOf, cX12_lowestOf, 1, some .int, 1, 12) := (xm7 211 rfl rfl)
set_option maxRecDepth 20000 in
theorem xYa_225 : xokYi (yX12_drawDay, cX12_drawDay, 3, none, 0, 12) := ⟨(xm7 203 rfl rfl), xcl_15.1, xcl_15.2.1, xcl_15.2.2.1, xcl_15.2.2.2, Nat.le_of_ble_eq_true rfl, by decide +kernel, Or.inl ⟨_, _, rfl⟩⟩
set_option maxRecDepth 20000 in
theorem xYv_225 : xokVi (yX12_drawDay, cX12_drawDay, 3, none, 0, 12) := ⟨(xm7 202 rfl rfl), (xmP 90 rfl rfl)⟩
set_option maxRecDepth 20000 in
theorem xYa_226 : xokYi (yX12_centuries, cX12_centuries, 5, some .int, 2, 12) := ⟨(xm7 199 rfl rfl), xcl_15.1, xcl_15.2.1, xcl_15.2.2.1, xcl_15.2.2.2, Nat.le_of_ble_eq_true rfl, by decide +kernel, Or.inl ⟨_, _, rfl⟩⟩
set_option maxRecDepth 20000 in
theorem xYv_226 : xokVi (yX12_centuries, cX12_centuries, 5, some .int, 2, 12) := ⟨(xm7 197 rfl rfl), (xm7 198 rfl rfl)⟩
set_option maxRecDepth 20000 in
theorem xYa_227 : xokYi (yX12_undo, cX12_undo, 2, some .int, 0, 12) := ⟨(xm7 220 rfl rfl), xcl_15.1, xcl_15.2.1, xcl_15.2.2.1, xcl_15.2.2.2, Nat.le_of_ble_eq_true rfl, by decide +kernel, Or.inl ⟨_, _, rfl⟩⟩
set_option maxRecDepth 20000 in
theorem xYv_227 : xokVi (yX12_undo, cX12_undo, 2, some .int, 0, 12) := ⟨(xm7 218 rfl rfl), (xm7 219 rfl rfl)⟩
set_option maxRecDepth 20000 in
theorem xYa_228 : xokYi (yX12_log, cX12_log, 3, some .int, 2, 12) := ⟨(xm7 224 rfl rfl), xcl_15.1, xcl_15.2.1, xcl_15.2.2.1, xcl_15.2.2.2, Nat.le_of_ble_eq_true rfl, by decide +kernel, Or.inl ⟨_, _, rfl⟩⟩
set_option maxRecDepth 20000 in
theorem xYv_228 : xokVi (yX12_log, cX12_log, 3, some .int, 2, 12) := ⟨(xm7 222 rfl rfl), (xm7 223 rfl rfl)⟩
set_option maxRecDepth 20000 in
theorem xYa_229 : xokYi (yX12_alone, cX12_alone, 4, some .int, 1, 12) := ⟨(xm7 228 rfl rfl), xcl_15.1, xcl_15.2.1, xcl_15.2.2.1, xcl_15.2.2.2, Nat.le_of_ble_eq_true rfl, by decide +kernel, Or.inl ⟨_, _, rfl⟩⟩
set_option maxRecDepth 20000 in
theorem xYv_229 : xokVi (yX12_alone, cX12_alone, 4, some .int, 1, 12) := ⟨(xm7 226 rfl rfl), (xm7 227 rfl rfl)⟩
set_option maxRecDepth 20000 in
theorem xYa_230 : xokYi (yX12_isKept, cX12_isKept, 8, some .boolean, 1, 12) := ⟨(xm8 6 rfl rfl), xcl_15.1, xcl_15.2.1, xcl_15.2.2.1, xcl_15.2.2.2, Nat.le_of_ble_eq_true rfl, by decide +kernel, Or.inl ⟨_, _, rfl⟩⟩
set_option maxRecDepth 20000 in
theorem xYv_230 : xokVi (yX12_isKept, cX12_isKept, 8, some .boolean, 1, 12) := ⟨(xm8 5 rfl rfl), (xmP 94 rfl rfl)⟩
set_option maxRecDepth 20000 in
theorem xYa_231 : xokYi (yX12_isShouted, cX12_isShouted, 3, some .boolean, 1, 12) := ⟨(xm8 10 rfl rfl), xcl_15.1, xcl_15.2.1, xcl_15.2.2.1, xcl_15.2.2.2, Nat.le_of_ble_eq_true rfl, by decide +kernel, Or.inl ⟨_, _, rfl⟩⟩
set_option maxRecDepth 20000 in
theorem xYv_231 : xokVi (yX12_isShouted, cX12_isShouted, 3, some .boolean, 1, 12) := ⟨(xm8 9 rfl rfl), (xmP 95 rfl rfl)⟩
set_option maxRecDepth 20000 in
theorem xYa_232 : xokYi (yX12_tryKeep, cX12_tryKeep, 7, none, 5, 12) := ⟨(xm8 2 rfl rfl), xcl_15.1, xcl_15.2.1, xcl_15.2.2.1, xcl_15.2.2.2, Nat.le_of_ble_eq_true rfl, by decide +kernel, Or.inl ⟨_, _, rfl⟩⟩
set_option maxRecDepth 20000 in
theorem xYv_232 : xokVi (yX12_tryKeep, cX12_tryKeep, 7, none, 5, 12) := ⟨(xm8 1 rfl rfl), (xmP 93 rfl rfl)⟩
set_option maxRecDepth 20000 in
theorem xYa_233 : xokYi (yX12_isSome, cX12_isSome, 2, some .boolean, 1, 12) := ⟨(xm7 236 rfl rfl), xcl_15.1, xcl_15.2.1, xcl_15.2.2.1, xcl_15.2.2.2, Nat.le_of_ble_eq_true rfl, by decide +kernel, Or.inl ⟨_, _, rfl⟩⟩
set_option maxRecDepth 20000 in
theorem xYv_233 : xokVi (yX12_isSome, cX12_isSome, 2, some .boolean, 1, 12) := ⟨(xm7 235 rfl rfl), (xmP 92 rfl rfl)⟩
set_option maxRecDepth 20000 in
theorem xYa_234 : xokYi (yX12_keep, cX12_keep, 3, some .int, 2, 12) := ⟨(xm7 232 rfl rfl), xcl_15.1, xcl_15.2.1, xcl_15.2.2.1, xcl_15.2.2.2, Nat.le_of_ble_eq_true rfl, by decide +kernel, Or.inl ⟨_, _, rfl⟩⟩
set_option maxRecDepth 20000 in
theorem xYv_234 : xokVi (yX12_keep, cX12_keep, 3, some .int, 2, 12) := ⟨(xm7 230 rfl rfl), (xm7 231 rfl rfl)⟩
set_option maxRecDepth 20000 in
theorem xYa_235 : xokYi (yX12_isEnough, cX12_isEnough, 3, some .boolean, 2, 12) := ⟨(xm8 22 rfl rfl), xcl_15.1, xcl_15.2.1, xcl_15.2.2.1, xcl_15.2.2.2, Nat.le_of_ble_eq_true rfl, by decide +kernel, Or.inl ⟨_, _, rfl⟩⟩
set_option maxRecDepth 20000 in
theorem xYv_235 : xokVi (yX12_isEnough, cX12_isEnough, 3, some .boolean, 2, 12) := ⟨(xm8 21 rfl rfl), (xmP 97 rfl rfl)⟩
set_option maxRecDepth 20000 in
theorem xYa_236 : xokYi (yX12_ringFrom, cX12_ringFrom, 7, some .int, 4, 12) := ⟨(xm8 18 rfl rfl), xcl_15.1, xcl_15.2.1, xcl_15.2.2.1, xcl_15.2.2.2, Nat.le_of_ble_eq_true rfl, by decide +kernel, Or.inl ⟨_, _, rfl⟩⟩
set_option maxRecDepth 20000 in
theorem xYv_236 : xokVi (yX12_ringFrom, cX12_ringFrom, 7, some .int, 4, 12) := ⟨(xm8 17 rfl rfl), (xmP 96 rfl rfl)⟩
set_option maxRecDepth 20000 in
theorem xYa_237 : xokYi (yX12_ring, cX12_ring, 3, some .int, 1, 12) := ⟨(xm8 14 rfl rfl), xcl_15.1, xcl_15.2.1, xcl_15.2.2.1, xcl_15.2.2.2, Nat.le_of_ble_eq_true rfl, by decide +kernel, Or.inl ⟨_, _, rfl⟩⟩
set_option maxRecDepth 20000 in
theorem xYv_237 : xokVi (yX12_ring, cX12_ring, 3, some .int, 1, 12) := ⟨(xm8 12 rfl rfl), (xm8 13 rfl rfl)⟩
set_option maxRecDepth 20000 in
theorem xYa_238 : xokYi (yX12_price, cX12_price, 11, some .int, 2, 12) := ⟨(xm8 26 rfl rfl), xcl_15.1, xcl_15.2.1, xcl_15.2.2.1, xcl_15.2.2.2, Nat.le_of_ble_eq_true rfl, by decide +kernel, Or.inl ⟨_, _, rfl⟩⟩
set_option maxRecDepth 20000 in
theorem xYv_238 : xokVi (yX12_price, cX12_price, 11, some .int, 2, 12) := ⟨(xm8 24 rfl rfl), (xm8 25 rfl rfl)⟩
set_option maxRecDepth 20000 in
theorem xYa_239 : xokYi (yX12_fitsIn, cX12_fitsIn, 4, some .boolean, 2, 12) := ⟨(xm8 38 rfl rfl), xcl_15.1, xcl_15.2.1, xcl_15.2.2.1, xcl_15.2.2.2, Nat.le_of_ble_eq_true rfl, by decide +kernel, Or.inl ⟨_, _, rfl⟩⟩
set_option maxRecDepth 20000 in
theorem xYv_239 : xokVi (yX12_fitsIn, cX12_fitsIn, 4, some .boolean, 2, 12) := ⟨(xm8 37 rfl rfl), (xmP 99 rfl rfl)⟩
set_option maxRecDepth 20000 in
theorem xYa_240 : xokYi (yX12_canPack, cX12_canPack, 6, some .boolean, 2, 12) := ⟨(xm8 34 rfl rfl), xcl_15.1, xcl_15.2.1, xcl_15.2.2.1, xcl_15.2.2.2, Nat.le_of_ble_eq_true rfl, by decide +kernel, Or.inl ⟨_, _, rfl⟩⟩
set_option maxRecDepth 20000 in
theorem xYv_240 : xokVi (yX12_canPack, cX12_canPack, 6, some .boolean, 2, 12) := ⟨(xm8 33 rfl rfl), (xmP 98 rfl rfl)⟩
set_option maxRecDepth 20000 in
theorem xYa_241 : xokYi (yX12_packed, cX12_packed, 2, some .int, 0, 12) := ⟨(xm8 30 rfl rfl), xcl_15.1, xcl_15.2.1, xcl_15.2.2.1, xcl_15.2.2.2, Nat.le_of_ble_eq_true rfl, by decide +kernel, Or.inl ⟨_, _, rfl⟩⟩
set_option maxRecDepth 20000 in
theorem xYv_241 : xokVi (yX12_packed, cX12_packed, 2, some .int, 0, 12) := ⟨(xm8 28 rfl rfl), (xm8 29 rfl rfl)⟩
set_option maxRecDepth 20000 in
theorem xYa_242 : xokYi (yX12_weak, cX12_weak, 4, some .int, 0, 12) := ⟨(xm8 42 rfl rfl), xcl_15.1, xcl_15.2.1, xcl_15.2.2.1, xcl_15.2.2.2, Nat.le_of_ble_eq_true rfl, by decide +kernel, Or.inl ⟨_, _, rfl⟩⟩
set_option maxRecDepth 20000 in
theorem xYv_242 : xokVi (yX12_weak, cX12_weak, 4, some .int, 0, 12) := ⟨(xm8 40 rfl rfl), (xm8 41 rfl rfl)⟩
set_option maxRecDepth 20000 in
theorem xYa_243 : xokYi (yX12_partOf, cX12_partOf, 6, some .int, 2, 12) := ⟨(xm8 54 rfl rfl), xcl_15.1, xcl_15.2.1, xcl_15.2.2.1, xcl_15.2.2.2, Nat.le_of_ble_eq_true rfl, by decide +kernel, Or.inl ⟨_, _, rfl⟩⟩
set_option maxRecDepth 20000 in
theorem xYv_243 : xokVi (yX12_partOf, cX12_partOf, 6, some .int, 2, 12) := ⟨(xm8 53 rfl rfl), (xmP 101 rfl rfl)⟩
set_option maxRecDepth 20000 in
theorem xYa_244 : xokYi (yX12_partsOf, cX12_partsOf, 4, some .int, 1, 12) := ⟨(xm8 50 rfl rfl), xcl_15.1, xcl_15.2.1, xcl_15.2.2.1, xcl_15.2.2.2, Nat.le_of_ble_eq_true rfl, by decide +kernel, Or.inl ⟨_, _, rfl⟩⟩
set_option maxRecDepth 20000 in
theorem xYv_244 : xokVi (yX12_partsOf, cX12_partsOf, 4, some .int, 1, 12) := ⟨(xm8 49 rfl rfl), (xmP 100 rfl rfl)⟩
set_option maxRecDepth 20000 in
theorem xYa_245 : xokYi (yX12_parts, cX12_parts, 1, some .int, 0, 12) := ⟨(xm8 46 rfl rfl), xcl_15.1, xcl_15.2.1, xcl_15.2.2.1, xcl_15.2.2.2, Nat.le_of_ble_eq_true rfl, by decide +kernel, Or.inl ⟨_, _, rfl⟩⟩
set_option maxRecDepth 20000 in
theorem xYv_245 : xokVi (yX12_parts, cX12_parts, 1, some .int, 0, 12) := ⟨(xm8 44 rfl rfl), (xm8 45 rfl rfl)⟩
set_option maxRecDepth 20000 in
theorem xYa_246 : xokYi (yX12_bridges, cX12_bridges, 4, some .int, 0, 12) := ⟨(xm8 58 rfl rfl), xcl_15.1, xcl_15.2.1, xcl_15.2.2.1, xcl_15.2.2.2, Nat.le_of_ble_eq_true rfl, by decide +kernel, Or.inl ⟨_, _, rfl⟩⟩
set_option maxRecDepth 20000 in
theorem xYv_246 : xokVi (yX12_bridges, cX12_bridges, 4, some .int, 0, 12) := ⟨(xm8 56 rfl rfl), (xm8 57 rfl rfl)⟩
set_option maxRecDepth 20000 in
theorem xYa_247 : xokYi (yX12_bond, cX12_bond, 8, some .int, 0, 12) := ⟨(xm8 62 rfl rfl), xcl_15.1, xcl_15.2.1, xcl_15.2.2.1, xcl_15.2.2.2, Nat.le_of_ble_eq_true rfl, by decide +kernel, Or.inl ⟨_, _, rfl⟩⟩
set_option maxRecDepth 20000 in
theorem xYv_247 : xokVi (yX12_bond, cX12_bond, 8, some .int, 0, 12) := ⟨(xm8 60 rfl rfl), (xm8 61 rfl rfl)⟩
set_option maxRecDepth 20000 in
theorem xYa_248 : xokYi (yX12_dent, cX12_dent, 4, some .int, 3, 12) := ⟨(xm8 66 rfl rfl), xcl_15.1, xcl_15.2.1, xcl_15.2.2.1, xcl_15.2.2.2, Nat.le_of_ble_eq_true rfl, by decide +kernel, Or.inl ⟨_, _, rfl⟩⟩
set_option maxRecDepth 20000 in
theorem xYv_248 : xokVi (yX12_dent, cX12_dent, 4, some .int, 3, 12) := ⟨(xm8 64 rfl rfl), (xm8 65 rfl rfl)⟩
set_option maxRecDepth 20000 in
theorem xYa_249 : xokYi (yX12_letterAt, cX12_letterAt, 2, some .int, 2, 12) := ⟨(xm8 77 rfl rfl), xcl_15.1, xcl_15.2.1, xcl_15.2.2.1, xcl_15.2.2.2, Nat.le_of_ble_eq_true rfl, by decide +kernel, Or.inl ⟨_, _, rfl⟩⟩
set_option maxRecDepth 20000 in
theorem xYv_249 : xokSi (yX12_letterAt, cX12_letterAt, 2, some .int, 2, 12) := (xm8 76 rfl rfl)
set_option maxRecDepth 20000 in
theorem xYa_250 : xokYi (yX12_isFound, cX12_isFound, 4, some .boolean, 1, 12) := ⟨(xm8 74 rfl rfl), xcl_15.1, xcl_15.2.1, xcl_15.2.2.1, xcl_15.2.2.2, Nat.le_of_ble_eq_true rfl, by decide +kernel, Or.inl ⟨_, _, rfl⟩⟩
set_option maxRecDepth 20000 in
theorem xYv_250 : xokVi (yX12_isFound, cX12_isFound, 4, some .boolean, 1, 12) := ⟨(xm8 73 rfl rfl), (xmP 102 rfl rfl)⟩
set_option maxRecDepth 20000 in
theorem xYa_251 : xokYi (yX12_fits, cX12_fits, 4, some .int, 1, 12) := ⟨(xm8 70 rfl rfl), xcl_15.1, xcl_15.2.1, xcl_15.2.2.1, xcl_15.2.2.2, Nat.le_of_ble_eq_true rfl, by decide +kernel, Or.inl ⟨_, _, rfl⟩⟩
set_option maxRecDepth 20000 in
theorem xYv_251 : xokVi (yX12_fits, cX12_fits, 4, some .int, 1, 12) := ⟨(xm8 68 rfl rfl), (xm8 69 rfl rfl)⟩
set_option maxRecDepth 20000 in
theorem xYa_252 : xokYi (yX12_best, cX12_best, 7, some .int, 0, 12) := ⟨(xm8 81 rfl rfl), xcl_15.1, xcl_15.2.1, xcl_15.2.2.1, xcl_15.2.2.2, Nat.le_of_ble_eq_true rfl, by decide +kernel, Or.inl ⟨_, _, rfl⟩⟩
set_option maxRecDepth 20000 in
theorem xYv_252 : xokVi (yX12_best, cX12_best, 7, some .int, 0, 12) := ⟨(xm8 79 rfl rfl), (xm8 80 rfl rfl)⟩
set_option maxRecDepth 20000 in
theorem xYa_253 : xokYi (yX12_rivalOf, cX12_rivalOf, 5, some .int, 3, 12) := ⟨(xm8 95 rfl rfl), xcl_15.1, xcl_15.2.1, xcl_15.2.2.1, xcl_15.2.2.2, Nat.le_of_ble_eq_true rfl, by decide +kernel, Or.inl ⟨_, _, rfl⟩⟩
set_option maxRecDepth 20000 in
theorem xYv_253 : xokVi (yX12_rivalOf, cX12_rivalOf, 5, some .int, 3, 12) := ⟨(xm8 94 rfl rfl), (xmP 104 rfl rfl)⟩
set_option maxRecDepth 20000 in
theorem xYa_254 : xokYi (yX12_isHour, cX12_isHour, 2, some .boolean, 1, 12) := ⟨(xm8 91 rfl rfl), xcl_15.1, xcl_15.2.1, xcl_15.2.2.1, xcl_15.2.2.2, Nat.le_of_ble_eq_true rfl, by decide +kernel, Or.inl ⟨_, _, rfl⟩⟩
set_option maxRecDepth 20000 in
theorem xYv_254 : xokVi (yX12_isHour, cX12_isHour, 2, some .boolean, 1, 12) := ⟨(xm8 90 rfl rfl), (xmP 103 rfl rfl)⟩
set_option maxRecDepth 20000 in
theorem xYa_255 : xokYi (yX12_rival, cX12_rival, 4, some .int, 3, 12) := ⟨(xm8 87 rfl rfl), xcl_15.1, xcl_15.2.1, xcl_15.2.2.1, xcl_15.2.2.2, Nat.le_of_ble_eq_true rfl, by decide +kernel, Or.inl ⟨_, _, rfl⟩⟩
set_option maxRecDepth 20000 in
theorem xYv_255 : xokVi (yX12_rival, cX12_rival, 4, some .int, 3, 12) := ⟨(xm8 85 rfl rfl), (xm8 86 rfl rfl)⟩
set_option maxRecDepth 20000 in
theorem xYa_256 : xokYi (yX12_isRest, cX12_isRest, 6, some .boolean, 3, 12) := ⟨(xm8 103 rfl rfl), xcl_15.1, xcl_15.2.1, xcl_15.2.2.1, xcl_15.2.2.2, Nat.le_of_ble_eq_true rfl, by decide +kernel, Or.inl ⟨_, _, rfl⟩⟩
set_option maxRecDepth 20000 in
theorem xYv_256 : xokVi (yX12_isRest, cX12_isRest, 6, some .boolean, 3, 12) := ⟨(xm8 102 rfl rfl), (xmP 105 rfl rfl)⟩
set_option maxRecDepth 20000 in
theorem xYa_257 : xokYi (yX12_rests, cX12_rests, 6, some .int, 2, 12) := ⟨(xm8 99 rfl rfl), xcl_15.1, xcl_15.2.1, xcl_15.2.2.1, xcl_15.2.2.2, Nat.le_of_ble_eq_true rfl, by decide +kernel, Or.inl ⟨_, _, rfl⟩⟩
set_option maxRecDepth 20000 in
theorem xYv_257 : xokVi (yX12_rests, cX12_rests, 6, some .int, 2, 12) := ⟨(xm8 97 rfl rfl), (xm8 98 rfl rfl)⟩
set_option maxRecDepth 20000 in
theorem xYa_258 : xokYi (yX12_odds, cX12_odds, 9, some .int, 4, 12) := ⟨(xm8 107 rfl rfl), xcl_15.1, xcl_15.2.1, xcl_15.2.2.1, xcl_15.2.2.2, Nat.le_of_ble_eq_true rfl, by decide +kernel, Or.inl ⟨_, _, rfl⟩⟩
set_option maxRecDepth 20000 in
theorem xYv_258 : xokVi (yX12_odds, cX12_odds, 9, some .int, 4, 12) := ⟨(xm8 105 rfl rfl), (xm8 106 rfl rfl)⟩
set_option maxRecDepth 20000 in
theorem xYa_259 : xokYi (yX12_need, cX12_need, 2, some .int, 1, 12) := ⟨(xm8 113 rfl rfl), xcl_15.1, xcl_15.2.1, xcl_15.2.2.1, xcl_15.2.2.2, Nat.le_of_ble_eq_true rfl, by decide +kernel, Or.inl ⟨_, _, rfl⟩⟩
set_option maxRecDepth 20000 in
theorem xYv_259 : xokVi (yX12_need, cX12_need, 2, some .int, 1, 12) := ⟨(xm8 111 rfl rfl), (xm8 112 rfl rfl)⟩
set_option maxRecDepth 20000 in
theorem xYa_260 : xokYi (yX12_extreme, cX12_extreme, 7, some .int, 3, 12) := ⟨(xm8 121 rfl rfl), xcl_15.1, xcl_15.2.1, xcl_15.2.2.1, xcl_15.2.2.2, Nat.le_of_ble_eq_true rfl, by decide +kernel, Or.inl ⟨_, _, rfl⟩⟩
set_option maxRecDepth 20000 in
theorem xYv_260 : xokVi (yX12_extreme, cX12_extreme, 7, some .int, 3, 12) := ⟨(xm8 120 rfl rfl), (xmP 106 rfl rfl)⟩
set_option maxRecDepth 20000 in
theorem xYa_261 : xokYi (yX12_sharpest, cX12_sharpest, 1, some .int, 0, 12) := ⟨(xm8 117 rfl rfl), xcl_15.1, xcl_15.2.1, xcl_15.2.2.1, xcl_15.2.2.2, Nat.le_of_ble_eq_true rfl, by decide +kernel, Or.inl ⟨_, _, rfl⟩⟩
set_option maxRecDepth 20000 in
theorem xYv_261 : xokVi (yX12_sharpest, cX12_sharpest, 1, some .int, 0, 12) := ⟨(xm8 115 rfl rfl), (xm8 116 rfl rfl)⟩
set_option maxRecDepth 20000 in
theorem xYa_262 : xokYi (yX12_faintest, cX12_faintest, 1, some .int, 0, 12) := ⟨(xm8 125 rfl rfl), xcl_15.1, xcl_15.2.1, xcl_15.2.2.1, xcl_15.2.2.2, Nat.le_of_ble_eq_true rfl, by decide +kernel, Or.inl ⟨_, _, rfl⟩⟩
set_option maxRecDepth 20000 in
theorem xYv_262 : xokVi (yX12_faintest, cX12_faintest, 1, some .int, 0, 12) := ⟨(xm8 123 rfl rfl), (xm8 124 rfl rfl)⟩
set_option maxRecDepth 20000 in
theorem xYa_263 : xokYi (yX12_richest, cX12_richest, 1, some .int, 0, 12) := ⟨(xm8 129 rfl rfl), xcl_15.1, xcl_15.2.1, xcl_15.2.2.1, xcl_15.2.2.2, Nat.le_of_ble_eq_true rfl, by decide +kernel, Or.inl ⟨_, _, rfl⟩⟩
set_option maxRecDepth 20000 in
theorem xYv_263 : xokVi (yX12_richest, cX12_richest, 1, some .int, 0, 12) := ⟨(xm8 127 rfl rfl), (xm8 128 rfl rfl)⟩
set_option maxRecDepth 20000 in
theorem xYa_264 : xokYi (yX12_friends, cX12_friends, 2, some .int, 1, 12) := ⟨(xm8 133 rfl rfl), xcl_15.1, xcl_15.2.1, xcl_15.2.2.1, xcl_15.2.2.2, Nat.le_of_ble_eq_true rfl, by decide +kernel, Or.inl ⟨_, _, rfl⟩⟩
set_option maxRecDepth 20000 in
theorem xYv_264 : xokVi (yX12_friends, cX12_friends, 2, some .int, 1, 12) := ⟨(xm8 131 rfl rfl), (xm8 132 rfl rfl)⟩
set_option maxRecDepth 20000 in
theorem xYa_265 : xokYi (yX12_helped, cX12_helped, 3, some .int, 0, 12) := ⟨(xm8 137 rfl rfl), xcl_15.1, xcl_15.2.1, xcl_15.2.2.1, xcl_15.2.2.2, Nat.le_of_ble_eq_true rfl, by decide +kernel, Or.inl ⟨_, _, rfl⟩⟩
set_option maxRecDepth 20000 in
theorem xYv_265 : xokVi (yX12_helped, cX12_helped, 3, some .int, 0, 12) := ⟨(xm8 135 rfl rfl), (xm8 136 rfl rfl)⟩
set_option maxRecDepth 20000 in
theorem xYa_266 : xokYi (yX12_doomed, cX12_doomed, 3, some .int, 0, 12) := ⟨(xm8 141 rfl rfl), xcl_15.1, xcl_15.2.1, xcl_15.2.2.1, xcl_15.2.2.2, Nat.le_of_ble_eq_true rfl, by decide +kernel, Or.inl ⟨_, _, rfl⟩⟩
set_option maxRecDepth 20000 in
theorem xYv_266 : xokVi (yX12_doomed, cX12_doomed, 3, some .int, 0, 12) := ⟨(xm8 139 rfl rfl), (xm8 140 rfl rfl)⟩
set_option maxRecDepth 20000 in
theorem xYa_267 : xokYi (yX12_image, cX12_image, 2, some .int, 0, 12) := ⟨(xm8 145 rfl rfl), xcl_15.1, xcl_15.2.1, xcl_15.2.2.1, xcl_15.2.2.2, Nat.le_of_ble_eq_true rfl, by decide +kernel, Or.inl ⟨_, _, rfl⟩⟩
set_option maxRecDepth 20000 in
theorem xYv_267 : xokVi (yX12_image, cX12_image, 2, some .int, 0, 12) := ⟨(xm8 143 rfl rfl), (xm8 144 rfl rfl)⟩
set_option maxRecDepth 20000 in
theorem xYa_268 : xokYi (yX12_back, cX12_back, 2, some .int, 0, 12) := ⟨(xm8 149 rfl rfl), xcl_15.1, xcl_15.2.1, xcl_15.2.2.1, xcl_15.2.2.2, Nat.le_of_ble_eq_true rfl, by decide +kernel, Or.inl ⟨_, _, rfl⟩⟩
set_option maxRecDepth 20000 in
theorem xYv_268 : xokVi (yX12_back, cX12_back, 2, some .int, 0, 12) := ⟨(xm8 147 rfl rfl), (xm8 148 rfl rfl)⟩
set_option maxRecDepth 20000 in
theorem xYa_269 : xokYi (yX12_shoutsToday, cX12_shoutsToday, 3, some .int, 0, 12) := ⟨(xm8 157 rfl rfl), xcl_15.1, xcl_15.2.1, xcl_15.2.2.1, xcl_15.2.2.2, Nat.le_of_ble_eq_true rfl, by decide +kernel, Or.inl ⟨_, _, rfl⟩⟩
set_option maxRecDepth 20000 in
theorem xYv_269 : xokVi (yX12_shoutsToday, cX12_shoutsToday, 3, some .int, 0, 12) := ⟨(xm8 156 rfl rfl), (xmP 107 rfl rfl)⟩
set_option maxRecDepth 20000 in
theorem xYa_270 : xokYi (yX12_count, cX12_count, 2, some .int, 1, 12) := ⟨(xm8 153 rfl rfl), xcl_15.1, xcl_15.2.1, xcl_15.2.2.1, xcl_15.2.2.2, Nat.le_of_ble_eq_true rfl, by decide +kernel, Or.inl ⟨_, _, rfl⟩⟩
set_option maxRecDepth 20000 in
theorem xYv_270 : xokVi (yX12_count, cX12_count, 2, some .int, 1, 12) := ⟨(xm8 151 rfl rfl), (xm8 152 rfl rfl)⟩
set_option maxRecDepth 20000 in
theorem xYa_271 : xokYi (yJ0_length_8abf5, cJ0_length_8abf5, 1, some .int, 0, 20) := ⟨(xm2 228 rfl rfl), xcl_1.1, xcl_1.2.1, xcl_1.2.2.1, xcl_1.2.2.2, Nat.le_of_ble_eq_true rfl, by decide +kernel, Or.inr (Or.inl ⟨rfl, rfl⟩)⟩
set_option maxRecDepth 20000 in
theorem xYv_271 : xokVi (yJ0_length_8abf5, cJ0_length_8abf5, 1, some .int, 0, 20) := ⟨(xm2 226 rfl rfl), (xm2 227 rfl rfl)⟩
set_option maxRecDepth 20000 in
theorem xYa_272 : xokYi (yJ0_coder_7d493, cJ0_coder_7d493, 1, some .byte, 0, 20) := ⟨(xm2 232 rfl rfl), xcl_1.1, xcl_1.2.1, xcl_1.2.2.1, xcl_1.2.2.2, Nat.le_of_ble_eq_true rfl, by decide +kernel, Or.inr (Or.inl ⟨rfl, rfl⟩)⟩
set_option maxRecDepth 20000 in
theorem xYv_272 : xokVi (yJ0_coder_7d493, cJ0_coder_7d493, 1, some .byte, 0, 20) := ⟨(xm2 230 rfl rfl), (xm2 231 rfl rfl)⟩
def xYt (n : Nat) : List xInf := xYl.drop n
def xVtl (n : Nat) : List Bool := xVl.drop n
theorem xB_273 : xokB (xYt 273) (xVtl 273) := trivial
theorem xB_step {n : Nat} {i : xInf} {b : Bool} (h : xokB (xYt (n + 1)) (xVtl (n + 1))) (h1 : xYl[n]? = some i) (h2 : xVl[n]? = some b) (hi : xokYi i) (hv : b = true → xokVi i) (hs : b = false → xokSi i) : xokB (xYt n) (xVtl n) := by
  have e1 : xYt n = i :: xYt (n + 1) := by
    unfold xYt
    obtain ⟨q, e⟩ := List.getElem?_eq_some_iff.mp h1
    rw [List.drop_eq_getElem_cons q, e]
  have e2 : xVtl n = b :: xVtl (n + 1) := by
    unfold xVtl
    obtain ⟨q, e⟩ := List.getElem?_eq_some_iff.mp h2
    rw [List.drop_eq_getElem_cons q, e]
  rw [e1, e2]
  exact ⟨hi, hv, hs, h⟩
set_option maxRecDepth 20000 in
theorem xB_272 : xokB (xYt 272) (xVtl 272) := xB_step xB_273 rfl rfl xYa_272 (fun _ => xYv_272) (fun h => by cases h)
set_option maxRecDepth 20000 in
theorem xB_271 : xokB (xYt 271) (xVtl 271) := xB_step xB_272 rfl rfl xYa_271 (fun _ => xYv_271) (fun h => by cases h)
set_option maxRecDepth 20000 in
theorem xB_270 : xokB (xYt 270) (xVtl 270) := xB_step xB_271 rfl rfl xYa_270 (fun _ => xYv_270) (fun h => by cases h)
set_option maxRecDepth 20000 in
theorem xB_269 : xokB (xYt 269) (xVtl 269) := xB_step xB_270 rfl rfl xYa_269 (fun _ => xYv_269) (fun h => by cases h)
set_option maxRecDepth 20000 in
theorem xB_268 : xokB (xYt 268) (xVtl 268) := xB_step xB_269 rfl rfl xYa_268 (fun _ => xYv_268) (fun h => by cases h)
set_option maxRecDepth 20000 in
theorem xB_267 : xokB (xYt 267) (xVtl 267) := xB_step xB_268 rfl rfl xYa_267 (fun _ => xYv_267) (fun h => by cases h)
set_option maxRecDepth 20000 in
theorem xB_266 : xokB (xYt 266) (xVtl 266) := xB_step xB_267 rfl rfl xYa_266 (fun _ => xYv_266) (fun h => by cases h)
set_option maxRecDepth 20000 in
theorem xB_265 : xokB (xYt 265) (xVtl 265) := xB_step xB_266 rfl rfl xYa_265 (fun _ => xYv_265) (fun h => by cases h)
set_option maxRecDepth 20000 in
theorem xB_264 : xokB (xYt 264) (xVtl 264) := xB_step xB_265 rfl rfl xYa_264 (fun _ => xYv_264) (fun h => by cases h)
set_option maxRecDepth 20000 in
theorem xB_263 : xokB (xYt 263) (xVtl 263) := xB_step xB_264 rfl rfl xYa_263 (fun _ => xYv_263) (fun h => by cases h)
set_option maxRecDepth 20000 in
theorem xB_262 : xokB (xYt 262) (xVtl 262) := xB_step xB_263 rfl rfl xYa_262 (fun _ => xYv_262) (fun h => by cases h)
set_option maxRecDepth 20000 in
theorem xB_261 : xokB (xYt 261) (xVtl 261) := xB_step xB_262 rfl rfl xYa_261 (fun _ => xYv_261) (fun h => by cases h)
set_option maxRecDepth 20000 in
theorem xB_260 : xokB (xYt 260) (xVtl 260) := xB_step xB_261 rfl rfl xYa_260 (fun _ => xYv_260) (fun h => by cases h)
set_option maxRecDepth 20000 in
theorem xB_259 : xokB (xYt 259) (xVtl 259) := xB_step xB_260 rfl rfl xYa_259 (fun _ => xYv_259) (fun h => by cases h)
set_option maxRecDepth 20000 in
theorem xB_258 : xokB (xYt 258) (xVtl 258) := xB_step xB_259 rfl rfl xYa_258 (fun _ => xYv_258) (fun h => by cases h)
set_option maxRecDepth 20000 in
theorem xB_257 : xokB (xYt 257) (xVtl 257) := xB_step xB_258 rfl rfl xYa_257 (fun _ => xYv_257) (fun h => by cases h)
set_option maxRecDepth 20000 in
theorem xB_256 : xokB (xYt 256) (xVtl 256) := xB_step xB_257 rfl rfl xYa_256 (fun _ => xYv_256) (fun h => by cases h)
set_option maxRecDepth 20000 in
theorem xB_255 : xokB (xYt 255) (xVtl 255) := xB_step xB_256 rfl rfl xYa_255 (fun _ => xYv_255) (fun h => by cases h)
set_option maxRecDepth 20000 in
theorem xB_254 : xokB (xYt 254) (xVtl 254) := xB_step xB_255 rfl rfl xYa_254 (fun _ => xYv_254) (fun h => by cases h)
set_option maxRecDepth 20000 in
theorem xB_253 : xokB (xYt 253) (xVtl 253) := xB_step xB_254 rfl rfl xYa_253 (fun _ => xYv_253) (fun h => by cases h)
set_option maxRecDepth 20000 in
theorem xB_252 : xokB (xYt 252) (xVtl 252) := xB_step xB_253 rfl rfl xYa_252 (fun _ => xYv_252) (fun h => by cases h)
set_option maxRecDepth 20000 in
theorem xB_251 : xokB (xYt 251) (xVtl 251) := xB_step xB_252 rfl rfl xYa_251 (fun _ => xYv_251) (fun h => by cases h)
set_option maxRecDepth 20000 in
theorem xB_250 : xokB (xYt 250) (xVtl 250) := xB_step xB_251 rfl rfl xYa_250 (fun _ => xYv_250) (fun h => by cases h)
set_option maxRecDepth 20000 in
theorem xB_249 : xokB (xYt 249) (xVtl 249) := xB_step xB_250 rfl rfl xYa_249 (fun h => by cases h) (fun _ => xYv_249)
set_option maxRecDepth 20000 in
theorem xB_248 : xokB (xYt 248) (xVtl 248) := xB_step xB_249 rfl rfl xYa_248 (fun _ => xYv_248) (fun h => by cases h)
set_option maxRecDepth 20000 in
theorem xB_247 : xokB (xYt 247) (xVtl 247) := xB_step xB_248 rfl rfl xYa_247 (fun _ => xYv_247) (fun h => by cases h)
set_option maxRecDepth 20000 in
theorem xB_246 : xokB (xYt 246) (xVtl 246) := xB_step xB_247 rfl rfl xYa_246 (fun _ => xYv_246) (fun h => by cases h)
set_option maxRecDepth 20000 in
theorem xB_245 : xokB (xYt 245) (xVtl 245) := xB_step xB_246 rfl rfl xYa_245 (fun _ => xYv_245) (fun h => by cases h)
set_option maxRecDepth 20000 in
theorem xB_244 : xokB (xYt 244) (xVtl 244) := xB_step xB_245 rfl rfl xYa_244 (fun _ => xYv_244) (fun h => by cases h)
set_option maxRecDepth 20000 in
theorem xB_243 : xokB (xYt 243) (xVtl 243) := xB_step xB_244 rfl rfl xYa_243 (fun _ => xYv_243) (fun h => by cases h)
set_option maxRecDepth 20000 in
theorem xB_242 : xokB (xYt 242) (xVtl 242) := xB_step xB_243 rfl rfl xYa_242 (fun _ => xYv_242) (fun h => by cases h)
set_option maxRecDepth 20000 in
theorem xB_241 : xokB (xYt 241) (xVtl 241) := xB_step xB_242 rfl rfl xYa_241 (fun _ => xYv_241) (fun h => by cases h)
set_option maxRecDepth 20000 in
theorem xB_240 : xokB (xYt 240) (xVtl 240) := xB_step xB_241 rfl rfl xYa_240 (fun _ => xYv_240) (fun h => by cases h)
set_option maxRecDepth 20000 in
theorem xB_239 : xokB (xYt 239) (xVtl 239) := xB_step xB_240 rfl rfl xYa_239 (fun _ => xYv_239) (fun h => by cases h)
set_option maxRecDepth 20000 in
theorem xB_238 : xokB (xYt 238) (xVtl 238) := xB_step xB_239 rfl rfl xYa_238 (fun _ => xYv_238) (fun h => by cases h)
set_option maxRecDepth 20000 in
theorem xB_237 : xokB (xYt 237) (xVtl 237) := xB_step xB_238 rfl rfl xYa_237 (fun _ => xYv_237) (fun h => by cases h)
set_option maxRecDepth 20000 in
theorem xB_236 : xokB (xYt 236) (xVtl 236) := xB_step xB_237 rfl rfl xYa_236 (fun _ => xYv_236) (fun h => by cases h)
set_option maxRecDepth 20000 in
theorem xB_235 : xokB (xYt 235) (xVtl 235) := xB_step xB_236 rfl rfl xYa_235 (fun _ => xYv_235) (fun h => by cases h)
set_option maxRecDepth 20000 in
theorem xB_234 : xokB (xYt 234) (xVtl 234) := xB_step xB_235 rfl rfl xYa_234 (fun _ => xYv_234) (fun h => by cases h)
set_option maxRecDepth 20000 in
theorem xB_233 : xokB (xYt 233) (xVtl 233) := xB_step xB_234 rfl rfl xYa_233 (fun _ => xYv_233) (fun h => by cases h)
set_option maxRecDepth 20000 in
theorem xB_232 : xokB (xYt 232) (xVtl 232) := xB_step xB_233 rfl rfl xYa_232 (fun _ => xYv_232) (fun h => by cases h)
set_option maxRecDepth 20000 in
theorem xB_231 : xokB (xYt 231) (xVtl 231) := xB_step xB_232 rfl rfl xYa_231 (fun _ => xYv_231) (fun h => by cases h)
set_option maxRecDepth 20000 in
theorem xB_230 : xokB (xYt 230) (xVtl 230) := xB_step xB_231 rfl rfl xYa_230 (fun _ => xYv_230) (fun h => by cases h)
set_option maxRecDepth 20000 in
theorem xB_229 : xokB (xYt 229) (xVtl 229) := xB_step xB_230 rfl rfl xYa_229 (fun _ => xYv_229) (fun h => by cases h)
set_option maxRecDepth 20000 in
theorem xB_228 : xokB (xYt 228) (xVtl 228) := xB_step xB_229 rfl rfl xYa_228 (fun _ => xYv_228) (fun h => by cases h)
set_option maxRecDepth 20000 in
theorem xB_227 : xokB (xYt 227) (xVtl 227) := xB_step xB_228 rfl rfl xYa_227 (fun _ => xYv_227) (fun h => by cases h)
set_option maxRecDepth 20000 in
theorem xB_226 : xokB (xYt 226) (xVtl 226) := xB_step xB_227 rfl rfl xYa_226 (fun _ => xYv_226) (fun h => by cases h)
set_option maxRecDepth 20000 in
theorem xB_225 : xokB (xYt 225) (xVtl 225) := xB_step xB_226 rfl rfl xYa_225 (fun _ => xYv_225) (fun h => by cases h)
set_option maxRecDepth 20000 in
theorem xB_224 : xokB (xYt 224) (xVtl 224) := xB_step xB_225 rfl rfl xYa_224 (fun h => by cases h) (fun _ => xYv_224)
set_option maxRecDepth 20000 in
theorem xB_223 : xokB (xYt 223) (xVtl 223) := xB_step xB_224 rfl rfl xYa_223 (fun _ => xYv_223) (fun h => by cases h)
set_option maxRecDepth 20000 in
theorem xB_222 : xokB (xYt 222) (xVtl 222) := xB_step xB_223 rfl rfl xYa_222 (fun _ => xYv_222) (fun h => by cases h)
set_option maxRecDepth 20000 in
theorem xB_221 : xokB (xYt 221) (xVtl 221) := xB_step xB_222 rfl rfl xYa_221 (fun _ => xYv_221) (fun h => by cases h)
set_option maxRecDepth 20000 in
theorem xB_220 : xokB (xYt 220) (xVtl 220) := xB_step xB_221 rfl rfl xYa_220 (fun _ => xYv_220) (fun h => by cases h)
set_option maxRecDepth 20000 in
theorem xB_219 : xokB (xYt 219) (xVtl 219) := xB_step xB_220 rfl rfl xYa_219 (fun _ => xYv_219) (fun h => by cases h)
set_option maxRecDepth 20000 in
theorem xB_218 : xokB (xYt 218) (xVtl 218) := xB_step xB_219 rfl rfl xYa_218 (fun _ => xYv_218) (fun h => by cases h)
set_option maxRecDepth 20000 in
theorem xB_217 : xokB (xYt 217) (xVtl 217) := xB_step xB_218 rfl rfl xYa_217 (fun _ => xYv_217) (fun h => by cases h)
set_option maxRecDepth 20000 in
theorem xB_216 : xokB (xYt 216) (xVtl 216) := xB_step xB_217 rfl rfl xYa_216 (fun _ => xYv_216) (fun h => by cases h)
set_option maxRecDepth 20000 in
theorem xB_215 : xokB (xYt 215) (xVtl 215) := xB_step xB_216 rfl rfl xYa_215 (fun _ => xYv_215) (fun h => by cases h)
set_option maxRecDepth 20000 in
theorem xB_214 : xokB (xYt 214) (xVtl 214) := xB_step xB_215 rfl rfl xYa_214 (fun _ => xYv_214) (fun h => by cases h)
set_option maxRecDepth 20000 in
theorem xB_213 : xokB (xYt 213) (xVtl 213) := xB_step xB_214 rfl rfl xYa_213 (fun _ => xYv_213) (fun h => by cases h)
set_option maxRecDepth 20000 in
theorem xB_212 : xokB (xYt 212) (xVtl 212) := xB_step xB_213 rfl rfl xYa_212 (fun _ => xYv_212) (fun h => by cases h)
set_option maxRecDepth 20000 in
theorem xB_211 : xokB (xYt 211) (xVtl 211) := xB_step xB_212 rfl rfl xYa_211 (fun _ => xYv_211) (fun h => by cases h)
set_option maxRecDepth 20000 in
theorem xB_210 : xokB (xYt 210) (xVtl 210) := xB_step xB_211 rfl rfl xYa_210 (fun _ => xYv_210) (fun h => by cases h)
set_option maxRecDepth 20000 in
theorem xB_209 : xokB (xYt 209) (xVtl 209) := xB_step xB_210 rfl rfl xYa_209 (fun _ => xYv_209) (fun h => by cases h)
set_option maxRecDepth 20000 in
theorem xB_208 : xokB (xYt 208) (xVtl 208) := xB_step xB_209 rfl rfl xYa_208 (fun _ => xYv_208) (fun h => by cases h)
set_option maxRecDepth 20000 in
theorem xB_207 : xokB (xYt 207) (xVtl 207) := xB_step xB_208 rfl rfl xYa_207 (fun _ => xYv_207) (fun h => by cases h)
set_option maxRecDepth 20000 in
theorem xB_206 : xokB (xYt 206) (xVtl 206) := xB_step xB_207 rfl rfl xYa_206 (fun _ => xYv_206) (fun h => by cases h)
set_option maxRecDepth 20000 in
theorem xB_205 : xokB (xYt 205) (xVtl 205) := xB_step xB_206 rfl rfl xYa_205 (fun _ => xYv_205) (fun h => by cases h)
set_option maxRecDepth 20000 in
theorem xB_204 : xokB (xYt 204) (xVtl 204) := xB_step xB_205 rfl rfl xYa_204 (fun _ => xYv_204) (fun h => by cases h)
set_option maxRecDepth 20000 in
theorem xB_203 : xokB (xYt 203) (xVtl 203) := xB_step xB_204 rfl rfl xYa_203 (fun _ => xYv_203) (fun h => by cases h)
set_option maxRecDepth 20000 in
theorem xB_202 : xokB (xYt 202) (xVtl 202) := xB_step xB_203 rfl rfl xYa_202 (fun _ => xYv_202) (fun h => by cases h)
set_option maxRecDepth 20000 in
theorem xB_201 : xokB (xYt 201) (xVtl 201) := xB_step xB_202 rfl rfl xYa_201 (fun _ => xYv_201) (fun h => by cases h)
set_option maxRecDepth 20000 in
theorem xB_200 : xokB (xYt 200) (xVtl 200) := xB_step xB_201 rfl rfl xYa_200 (fun _ => xYv_200) (fun h => by cases h)
set_option maxRecDepth 20000 in
theorem xB_199 : xokB (xYt 199) (xVtl 199) := xB_step xB_200 rfl rfl xYa_199 (fun _ => xYv_199) (fun h => by cases h)
set_option maxRecDepth 20000 in
theorem xB_198 : xokB (xYt 198) (xVtl 198) := xB_step xB_199 rfl rfl xYa_198 (fun _ => xYv_198) (fun h => by cases h)
set_option maxRecDepth 20000 in
theorem xB_197 : xokB (xYt 197) (xVtl 197) := xB_step xB_198 rfl rfl xYa_197 (fun _ => xYv_197) (fun h => by cases h)
set_option maxRecDepth 20000 in
theorem xB_196 : xokB (xYt 196) (xVtl 196) := xB_step xB_197 rfl rfl xYa_196 (fun _ => xYv_196) (fun h => by cases h)
set_option maxRecDepth 20000 in
theorem xB_195 : xokB (xYt 195) (xVtl 195) := xB_step xB_196 rfl rfl xYa_195 (fun _ => xYv_195) (fun h => by cases h)
set_option maxRecDepth 20000 in
theorem xB_194 : xokB (xYt 194) (xVtl 194) := xB_step xB_195 rfl rfl xYa_194 (fun _ => xYv_194) (fun h => by cases h)
set_option maxRecDepth 20000 in
theorem xB_193 : xokB (xYt 193) (xVtl 193) := xB_step xB_194 rfl rfl xYa_193 (fun _ => xYv_193) (fun h => by cases h)
set_option maxRecDepth 20000 in
theorem xB_192 : xokB (xYt 192) (xVtl 192) := xB_step xB_193 rfl rfl xYa_192 (fun _ => xYv_192) (fun h => by cases h)
set_option maxRecDepth 20000 in
theorem xB_191 : xokB (xYt 191) (xVtl 191) := xB_step xB_192 rfl rfl xYa_191 (fun _ => xYv_191) (fun h => by cases h)
set_option maxRecDepth 20000 in
theorem xB_190 : xokB (xYt 190) (xVtl 190) := xB_step xB_191 rfl rfl xYa_190 (fun _ => xYv_190) (fun h => by cases h)
set_option maxRecDepth 20000 in
theorem xB_189 : xokB (xYt 189) (xVtl 189) := xB_step xB_190 rfl rfl xYa_189 (fun _ => xYv_189) (fun h => by cases h)
set_option maxRecDepth 20000 in
theorem xB_188 : xokB (xYt 188) (xVtl 188) := xB_step xB_189 rfl rfl xYa_188 (fun _ => xYv_188) (fun h => by cases h)
set_option maxRecDepth 20000 in
theorem xB_187 : xokB (xYt 187) (xVtl 187) := xB_step xB_188 rfl rfl xYa_187 (fun _ => xYv_187) (fun h => by cases h)
set_option maxRecDepth 20000 in
theorem xB_186 : xokB (xYt 186) (xVtl 186) := xB_step xB_187 rfl rfl xYa_186 (fun _ => xYv_186) (fun h => by cases h)
set_option maxRecDepth 20000 in
theorem xB_185 : xokB (xYt 185) (xVtl 185) := xB_step xB_186 rfl rfl xYa_185 (fun _ => xYv_185) (fun h => by cases h)
set_option maxRecDepth 20000 in
theorem xB_184 : xokB (xYt 184) (xVtl 184) := xB_step xB_185 rfl rfl xYa_184 (fun _ => xYv_184) (fun h => by cases h)
set_option maxRecDepth 20000 in
theorem xB_183 : xokB (xYt 183) (xVtl 183) := xB_step xB_184 rfl rfl xYa_183 (fun _ => xYv_183) (fun h => by cases h)
set_option maxRecDepth 20000 in
theorem xB_182 : xokB (xYt 182) (xVtl 182) := xB_step xB_183 rfl rfl xYa_182 (fun h => by cases h) (fun _ => xYv_182)
set_option maxRecDepth 20000 in
theorem xB_181 : xokB (xYt 181) (xVtl 181) := xB_step xB_182 rfl rfl xYa_181 (fun h => by cases h) (fun _ => xYv_181)
set_option maxRecDepth 20000 in
theorem xB_180 : xokB (xYt 180) (xVtl 180) := xB_step xB_181 rfl rfl xYa_180 (fun h => by cases h) (fun _ => xYv_180)
set_option maxRecDepth 20000 in
theorem xB_179 : xokB (xYt 179) (xVtl 179) := xB_step xB_180 rfl rfl xYa_179 (fun h => by cases h) (fun _ => xYv_179)
set_option maxRecDepth 20000 in
theorem xB_178 : xokB (xYt 178) (xVtl 178) := xB_step xB_179 rfl rfl xYa_178 (fun _ => xYv_178) (fun h => by cases h)
set_option maxRecDepth 20000 in
theorem xB_177 : xokB (xYt 177) (xVtl 177) := xB_step xB_178 rfl rfl xYa_177 (fun _ => xYv_177) (fun h => by cases h)
set_option maxRecDepth 20000 in
theorem xB_176 : xokB (xYt 176) (xVtl 176) := xB_step xB_177 rfl rfl xYa_176 (fun _ => xYv_176) (fun h => by cases h)
set_option maxRecDepth 20000 in
theorem xB_175 : xokB (xYt 175) (xVtl 175) := xB_step xB_176 rfl rfl xYa_175 (fun h => by cases h) (fun _ => xYv_175)
set_option maxRecDepth 20000 in
theorem xB_174 : xokB (xYt 174) (xVtl 174) := xB_step xB_175 rfl rfl xYa_174 (fun h => by cases h) (fun _ => xYv_174)
set_option maxRecDepth 20000 in
theorem xB_173 : xokB (xYt 173) (xVtl 173) := xB_step xB_174 rfl rfl xYa_173 (fun _ => xYv_173) (fun h => by cases h)
set_option maxRecDepth 20000 in
theorem xB_172 : xokB (xYt 172) (xVtl 172) := xB_step xB_173 rfl rfl xYa_172 (fun _ => xYv_172) (fun h => by cases h)
set_option maxRecDepth 20000 in
theorem xB_171 : xokB (xYt 171) (xVtl 171) := xB_step xB_172 rfl rfl xYa_171 (fun _ => xYv_171) (fun h => by cases h)
set_option maxRecDepth 20000 in
theorem xB_170 : xokB (xYt 170) (xVtl 170) := xB_step xB_171 rfl rfl xYa_170 (fun _ => xYv_170) (fun h => by cases h)
set_option maxRecDepth 20000 in
theorem xB_169 : xokB (xYt 169) (xVtl 169) := xB_step xB_170 rfl rfl xYa_169 (fun _ => xYv_169) (fun h => by cases h)
set_option maxRecDepth 20000 in
theorem xB_168 : xokB (xYt 168) (xVtl 168) := xB_step xB_169 rfl rfl xYa_168 (fun _ => xYv_168) (fun h => by cases h)
set_option maxRecDepth 20000 in
theorem xB_167 : xokB (xYt 167) (xVtl 167) := xB_step xB_168 rfl rfl xYa_167 (fun _ => xYv_167) (fun h => by cases h)
set_option maxRecDepth 20000 in
theorem xB_166 : xokB (xYt 166) (xVtl 166) := xB_step xB_167 rfl rfl xYa_166 (fun _ => xYv_166) (fun h => by cases h)
set_option maxRecDepth 20000 in
theorem xB_165 : xokB (xYt 165) (xVtl 165) := xB_step xB_166 rfl rfl xYa_165 (fun _ => xYv_165) (fun h => by cases h)
set_option maxRecDepth 20000 in
theorem xB_164 : xokB (xYt 164) (xVtl 164) := xB_step xB_165 rfl rfl xYa_164 (fun h => by cases h) (fun _ => xYv_164)
set_option maxRecDepth 20000 in
theorem xB_163 : xokB (xYt 163) (xVtl 163) := xB_step xB_164 rfl rfl xYa_163 (fun _ => xYv_163) (fun h => by cases h)
set_option maxRecDepth 20000 in
theorem xB_162 : xokB (xYt 162) (xVtl 162) := xB_step xB_163 rfl rfl xYa_162 (fun _ => xYv_162) (fun h => by cases h)
set_option maxRecDepth 20000 in
theorem xB_161 : xokB (xYt 161) (xVtl 161) := xB_step xB_162 rfl rfl xYa_161 (fun _ => xYv_161) (fun h => by cases h)
set_option maxRecDepth 20000 in
theorem xB_160 : xokB (xYt 160) (xVtl 160) := xB_step xB_161 rfl rfl xYa_160 (fun _ => xYv_160) (fun h => by cases h)
set_option maxRecDepth 20000 in
theorem xB_159 : xokB (xYt 159) (xVtl 159) := xB_step xB_160 rfl rfl xYa_159 (fun _ => xYv_159) (fun h => by cases h)
set_option maxRecDepth 20000 in
theorem xB_158 : xokB (xYt 158) (xVtl 158) := xB_step xB_159 rfl rfl xYa_158 (fun _ => xYv_158) (fun h => by cases h)
set_option maxRecDepth 20000 in
theorem xB_157 : xokB (xYt 157) (xVtl 157) := xB_step xB_158 rfl rfl xYa_157 (fun h => by cases h) (fun _ => xYv_157)
set_option maxRecDepth 20000 in
theorem xB_156 : xokB (xYt 156) (xVtl 156) := xB_step xB_157 rfl rfl xYa_156 (fun _ => xYv_156) (fun h => by cases h)
set_option maxRecDepth 20000 in
theorem xB_155 : xokB (xYt 155) (xVtl 155) := xB_step xB_156 rfl rfl xYa_155 (fun h => by cases h) (fun _ => xYv_155)
set_option maxRecDepth 20000 in
theorem xB_154 : xokB (xYt 154) (xVtl 154) := xB_step xB_155 rfl rfl xYa_154 (fun _ => xYv_154) (fun h => by cases h)
set_option maxRecDepth 20000 in
theorem xB_153 : xokB (xYt 153) (xVtl 153) := xB_step xB_154 rfl rfl xYa_153 (fun _ => xYv_153) (fun h => by cases h)
set_option maxRecDepth 20000 in
theorem xB_152 : xokB (xYt 152) (xVtl 152) := xB_step xB_153 rfl rfl xYa_152 (fun _ => xYv_152) (fun h => by cases h)
set_option maxRecDepth 20000 in
theorem xB_151 : xokB (xYt 151) (xVtl 151) := xB_step xB_152 rfl rfl xYa_151 (fun _ => xYv_151) (fun h => by cases h)
set_option maxRecDepth 20000 in
theorem xB_150 : xokB (xYt 150) (xVtl 150) := xB_step xB_151 rfl rfl xYa_150 (fun _ => xYv_150) (fun h => by cases h)
set_option maxRecDepth 20000 in
theorem xB_149 : xokB (xYt 149) (xVtl 149) := xB_step xB_150 rfl rfl xYa_149 (fun h => by cases h) (fun _ => xYv_149)
set_option maxRecDepth 20000 in
theorem xB_148 : xokB (xYt 148) (xVtl 148) := xB_step xB_149 rfl rfl xYa_148 (fun _ => xYv_148) (fun h => by cases h)
set_option maxRecDepth 20000 in
theorem xB_147 : xokB (xYt 147) (xVtl 147) := xB_step xB_148 rfl rfl xYa_147 (fun h => by cases h) (fun _ => xYv_147)
set_option maxRecDepth 20000 in
theorem xB_146 : xokB (xYt 146) (xVtl 146) := xB_step xB_147 rfl rfl xYa_146 (fun h => by cases h) (fun _ => xYv_146)
set_option maxRecDepth 20000 in
theorem xB_145 : xokB (xYt 145) (xVtl 145) := xB_step xB_146 rfl rfl xYa_145 (fun h => by cases h) (fun _ => xYv_145)
set_option maxRecDepth 20000 in
theorem xB_144 : xokB (xYt 144) (xVtl 144) := xB_step xB_145 rfl rfl xYa_144 (fun h => by cases h) (fun _ => xYv_144)
set_option maxRecDepth 20000 in
theorem xB_143 : xokB (xYt 143) (xVtl 143) := xB_step xB_144 rfl rfl xYa_143 (fun h => by cases h) (fun _ => xYv_143)
set_option maxRecDepth 20000 in
theorem xB_142 : xokB (xYt 142) (xVtl 142) := xB_step xB_143 rfl rfl xYa_142 (fun _ => xYv_142) (fun h => by cases h)
set_option maxRecDepth 20000 in
theorem xB_141 : xokB (xYt 141) (xVtl 141) := xB_step xB_142 rfl rfl xYa_141 (fun _ => xYv_141) (fun h => by cases h)
set_option maxRecDepth 20000 in
theorem xB_140 : xokB (xYt 140) (xVtl 140) := xB_step xB_141 rfl rfl xYa_140 (fun _ => xYv_140) (fun h => by cases h)
set_option maxRecDepth 20000 in
theorem xB_139 : xokB (xYt 139) (xVtl 139) := xB_step xB_140 rfl rfl xYa_139 (fun _ => xYv_139) (fun h => by cases h)
set_option maxRecDepth 20000 in
theorem xB_138 : xokB (xYt 138) (xVtl 138) := xB_step xB_139 rfl rfl xYa_138 (fun _ => xYv_138) (fun h => by cases h)
set_option maxRecDepth 20000 in
theorem xB_137 : xokB (xYt 137) (xVtl 137) := xB_step xB_138 rfl rfl xYa_137 (fun _ => xYv_137) (fun h => by cases h)
set_option maxRecDepth 20000 in
theorem xB_136 : xokB (xYt 136) (xVtl 136) := xB_step xB_137 rfl rfl xYa_136 (fun _ => xYv_136) (fun h => by cases h)
set_option maxRecDepth 20000 in
theorem xB_135 : xokB (xYt 135) (xVtl 135) := xB_step xB_136 rfl rfl xYa_135 (fun _ => xYv_135) (fun h => by cases h)
set_option maxRecDepth 20000 in
theorem xB_134 : xokB (xYt 134) (xVtl 134) := xB_step xB_135 rfl rfl xYa_134 (fun _ => xYv_134) (fun h => by cases h)
set_option maxRecDepth 20000 in
theorem xB_133 : xokB (xYt 133) (xVtl 133) := xB_step xB_134 rfl rfl xYa_133 (fun _ => xYv_133) (fun h => by cases h)
set_option maxRecDepth 20000 in
theorem xB_132 : xokB (xYt 132) (xVtl 132) := xB_step xB_133 rfl rfl xYa_132 (fun _ => xYv_132) (fun h => by cases h)
set_option maxRecDepth 20000 in
theorem xB_131 : xokB (xYt 131) (xVtl 131) := xB_step xB_132 rfl rfl xYa_131 (fun _ => xYv_131) (fun h => by cases h)
set_option maxRecDepth 20000 in
theorem xB_130 : xokB (xYt 130) (xVtl 130) := xB_step xB_131 rfl rfl xYa_130 (fun _ => xYv_130) (fun h => by cases h)
set_option maxRecDepth 20000 in
theorem xB_129 : xokB (xYt 129) (xVtl 129) := xB_step xB_130 rfl rfl xYa_129 (fun _ => xYv_129) (fun h => by cases h)
set_option maxRecDepth 20000 in
theorem xB_128 : xokB (xYt 128) (xVtl 128) := xB_step xB_129 rfl rfl xYa_128 (fun _ => xYv_128) (fun h => by cases h)
set_option maxRecDepth 20000 in
theorem xB_127 : xokB (xYt 127) (xVtl 127) := xB_step xB_128 rfl rfl xYa_127 (fun _ => xYv_127) (fun h => by cases h)
set_option maxRecDepth 20000 in
theorem xB_126 : xokB (xYt 126) (xVtl 126) := xB_step xB_127 rfl rfl xYa_126 (fun _ => xYv_126) (fun h => by cases h)
set_option maxRecDepth 20000 in
theorem xB_125 : xokB (xYt 125) (xVtl 125) := xB_step xB_126 rfl rfl xYa_125 (fun _ => xYv_125) (fun h => by cases h)
set_option maxRecDepth 20000 in
theorem xB_124 : xokB (xYt 124) (xVtl 124) := xB_step xB_125 rfl rfl xYa_124 (fun _ => xYv_124) (fun h => by cases h)
set_option maxRecDepth 20000 in
theorem xB_123 : xokB (xYt 123) (xVtl 123) := xB_step xB_124 rfl rfl xYa_123 (fun _ => xYv_123) (fun h => by cases h)
set_option maxRecDepth 20000 in
theorem xB_122 : xokB (xYt 122) (xVtl 122) := xB_step xB_123 rfl rfl xYa_122 (fun _ => xYv_122) (fun h => by cases h)
set_option maxRecDepth 20000 in
theorem xB_121 : xokB (xYt 121) (xVtl 121) := xB_step xB_122 rfl rfl xYa_121 (fun _ => xYv_121) (fun h => by cases h)
set_option maxRecDepth 20000 in
theorem xB_120 : xokB (xYt 120) (xVtl 120) := xB_step xB_121 rfl rfl xYa_120 (fun _ => xYv_120) (fun h => by cases h)
set_option maxRecDepth 20000 in
theorem xB_119 : xokB (xYt 119) (xVtl 119) := xB_step xB_120 rfl rfl xYa_119 (fun _ => xYv_119) (fun h => by cases h)
set_option maxRecDepth 20000 in
theorem xB_118 : xokB (xYt 118) (xVtl 118) := xB_step xB_119 rfl rfl xYa_118 (fun _ => xYv_118) (fun h => by cases h)
set_option maxRecDepth 20000 in
theorem xB_117 : xokB (xYt 117) (xVtl 117) := xB_step xB_118 rfl rfl xYa_117 (fun _ => xYv_117) (fun h => by cases h)
set_option maxRecDepth 20000 in
theorem xB_116 : xokB (xYt 116) (xVtl 116) := xB_step xB_117 rfl rfl xYa_116 (fun _ => xYv_116) (fun h => by cases h)
set_option maxRecDepth 20000 in
theorem xB_115 : xokB (xYt 115) (xVtl 115) := xB_step xB_116 rfl rfl xYa_115 (fun _ => xYv_115) (fun h => by cases h)
set_option maxRecDepth 20000 in
theorem xB_114 : xokB (xYt 114) (xVtl 114) := xB_step xB_115 rfl rfl xYa_114 (fun _ => xYv_114) (fun h => by cases h)
set_option maxRecDepth 20000 in
theorem xB_113 : xokB (xYt 113) (xVtl 113) := xB_step xB_114 rfl rfl xYa_113 (fun _ => xYv_113) (fun h => by cases h)
set_option maxRecDepth 20000 in
theorem xB_112 : xokB (xYt 112) (xVtl 112) := xB_step xB_113 rfl rfl xYa_112 (fun _ => xYv_112) (fun h => by cases h)
set_option maxRecDepth 20000 in
theorem xB_111 : xokB (xYt 111) (xVtl 111) := xB_step xB_112 rfl rfl xYa_111 (fun _ => xYv_111) (fun h => by cases h)
set_option maxRecDepth 20000 in
theorem xB_110 : xokB (xYt 110) (xVtl 110) := xB_step xB_111 rfl rfl xYa_110 (fun _ => xYv_110) (fun h => by cases h)
set_option maxRecDepth 20000 in
theorem xB_109 : xokB (xYt 109) (xVtl 109) := xB_step xB_110 rfl rfl xYa_109 (fun _ => xYv_109) (fun h => by cases h)
set_option maxRecDepth 20000 in
theorem xB_108 : xokB (xYt 108) (xVtl 108) := xB_step xB_109 rfl rfl xYa_108 (fun _ => xYv_108) (fun h => by cases h)
set_option maxRecDepth 20000 in
theorem xB_107 : xokB (xYt 107) (xVtl 107) := xB_step xB_108 rfl rfl xYa_107 (fun _ => xYv_107) (fun h => by cases h)
set_option maxRecDepth 20000 in
theorem xB_106 : xokB (xYt 106) (xVtl 106) := xB_step xB_107 rfl rfl xYa_106 (fun _ => xYv_106) (fun h => by cases h)
set_option maxRecDepth 20000 in
theorem xB_105 : xokB (xYt 105) (xVtl 105) := xB_step xB_106 rfl rfl xYa_105 (fun _ => xYv_105) (fun h => by cases h)
set_option maxRecDepth 20000 in
theorem xB_104 : xokB (xYt 104) (xVtl 104) := xB_step xB_105 rfl rfl xYa_104 (fun _ => xYv_104) (fun h => by cases h)
set_option maxRecDepth 20000 in
theorem xB_103 : xokB (xYt 103) (xVtl 103) := xB_step xB_104 rfl rfl xYa_103 (fun _ => xYv_103) (fun h => by cases h)
set_option maxRecDepth 20000 in
theorem xB_102 : xokB (xYt 102) (xVtl 102) := xB_step xB_103 rfl rfl xYa_102 (fun _ => xYv_102) (fun h => by cases h)
set_option maxRecDepth 20000 in
theorem xB_101 : xokB (xYt 101) (xVtl 101) := xB_step xB_102 rfl rfl xYa_101 (fun _ => xYv_101) (fun h => by cases h)
set_option maxRecDepth 20000 in
theorem xB_100 : xokB (xYt 100) (xVtl 100) := xB_step xB_101 rfl rfl xYa_100 (fun _ => xYv_100) (fun h => by cases h)
set_option maxRecDepth 20000 in
theorem xB_99 : xokB (xYt 99) (xVtl 99) := xB_step xB_100 rfl rfl xYa_99 (fun _ => xYv_99) (fun h => by cases h)
set_option maxRecDepth 20000 in
theorem xB_98 : xokB (xYt 98) (xVtl 98) := xB_step xB_99 rfl rfl xYa_98 (fun _ => xYv_98) (fun h => by cases h)
set_option maxRecDepth 20000 in
theorem xB_97 : xokB (xYt 97) (xVtl 97) := xB_step xB_98 rfl rfl xYa_97 (fun _ => xYv_97) (fun h => by cases h)
set_option maxRecDepth 20000 in
theorem xB_96 : xokB (xYt 96) (xVtl 96) := xB_step xB_97 rfl rfl xYa_96 (fun _ => xYv_96) (fun h => by cases h)
set_option maxRecDepth 20000 in
theorem xB_95 : xokB (xYt 95) (xVtl 95) := xB_step xB_96 rfl rfl xYa_95 (fun _ => xYv_95) (fun h => by cases h)
set_option maxRecDepth 20000 in
theorem xB_94 : xokB (xYt 94) (xVtl 94) := xB_step xB_95 rfl rfl xYa_94 (fun _ => xYv_94) (fun h => by cases h)
set_option maxRecDepth 20000 in
theorem xB_93 : xokB (xYt 93) (xVtl 93) := xB_step xB_94 rfl rfl xYa_93 (fun _ => xYv_93) (fun h => by cases h)
set_option maxRecDepth 20000 in
theorem xB_92 : xokB (xYt 92) (xVtl 92) := xB_step xB_93 rfl rfl xYa_92 (fun _ => xYv_92) (fun h => by cases h)
set_option maxRecDepth 20000 in
theorem xB_91 : xokB (xYt 91) (xVtl 91) := xB_step xB_92 rfl rfl xYa_91 (fun _ => xYv_91) (fun h => by cases h)
set_option maxRecDepth 20000 in
theorem xB_90 : xokB (xYt 90) (xVtl 90) := xB_step xB_91 rfl rfl xYa_90 (fun _ => xYv_90) (fun h => by cases h)
set_option maxRecDepth 20000 in
theorem xB_89 : xokB (xYt 89) (xVtl 89) := xB_step xB_90 rfl rfl xYa_89 (fun _ => xYv_89) (fun h => by cases h)
set_option maxRecDepth 20000 in
theorem xB_88 : xokB (xYt 88) (xVtl 88) := xB_step xB_89 rfl rfl xYa_88 (fun _ => xYv_88) (fun h => by cases h)
set_option maxRecDepth 20000 in
theorem xB_87 : xokB (xYt 87) (xVtl 87) := xB_step xB_88 rfl rfl xYa_87 (fun _ => xYv_87) (fun h => by cases h)
set_option maxRecDepth 20000 in
theorem xB_86 : xokB (xYt 86) (xVtl 86) := xB_step xB_87 rfl rfl xYa_86 (fun _ => xYv_86) (fun h => by cases h)
set_option maxRecDepth 20000 in
theorem xB_85 : xokB (xYt 85) (xVtl 85) := xB_step xB_86 rfl rfl xYa_85 (fun _ => xYv_85) (fun h => by cases h)
set_option maxRecDepth 20000 in
theorem xB_84 : xokB (xYt 84) (xVtl 84) := xB_step xB_85 rfl rfl xYa_84 (fun _ => xYv_84) (fun h => by cases h)
set_option maxRecDepth 20000 in
theorem xB_83 : xokB (xYt 83) (xVtl 83) := xB_step xB_84 rfl rfl xYa_83 (fun _ => xYv_83) (fun h => by cases h)
set_option maxRecDepth 20000 in
theorem xB_82 : xokB (xYt 82) (xVtl 82) := xB_step xB_83 rfl rfl xYa_82 (fun _ => xYv_82) (fun h => by cases h)
set_option maxRecDepth 20000 in
theorem xB_81 : xokB (xYt 81) (xVtl 81) := xB_step xB_82 rfl rfl xYa_81 (fun _ => xYv_81) (fun h => by cases h)
set_option maxRecDepth 20000 in
theorem xB_80 : xokB (xYt 80) (xVtl 80) := xB_step xB_81 rfl rfl xYa_80 (fun _ => xYv_80) (fun h => by cases h)
set_option maxRecDepth 20000 in
theorem xB_79 : xokB (xYt 79) (xVtl 79) := xB_step xB_80 rfl rfl xYa_79 (fun _ => xYv_79) (fun h => by cases h)
set_option maxRecDepth 20000 in
theorem xB_78 : xokB (xYt 78) (xVtl 78) := xB_step xB_79 rfl rfl xYa_78 (fun _ => xYv_78) (fun h => by cases h)
set_option maxRecDepth 20000 in
theorem xB_77 : xokB (xYt 77) (xVtl 77) := xB_step xB_78 rfl rfl xYa_77 (fun _ => xYv_77) (fun h => by cases h)
set_option maxRecDepth 20000 in
theorem xB_76 : xokB (xYt 76) (xVtl 76) := xB_step xB_77 rfl rfl xYa_76 (fun _ => xYv_76) (fun h => by cases h)
set_option maxRecDepth 20000 in
theorem xB_75 : xokB (xYt 75) (xVtl 75) := xB_step xB_76 rfl rfl xYa_75 (fun _ => xYv_75) (fun h => by cases h)
set_option maxRecDepth 20000 in
theorem xB_74 : xokB (xYt 74) (xVtl 74) := xB_step xB_75 rfl rfl xYa_74 (fun _ => xYv_74) (fun h => by cases h)
set_option maxRecDepth 20000 in
theorem xB_73 : xokB (xYt 73) (xVtl 73) := xB_step xB_74 rfl rfl xYa_73 (fun _ => xYv_73) (fun h => by cases h)
set_option maxRecDepth 20000 in
theorem xB_72 : xokB (xYt 72) (xVtl 72) := xB_step xB_73 rfl rfl xYa_72 (fun _ => xYv_72) (fun h => by cases h)
set_option maxRecDepth 20000 in
theorem xB_71 : xokB (xYt 71) (xVtl 71) := xB_step xB_72 rfl rfl xYa_71 (fun _ => xYv_71) (fun h => by cases h)
set_option maxRecDepth 20000 in
theorem xB_70 : xokB (xYt 70) (xVtl 70) := xB_step xB_71 rfl rfl xYa_70 (fun _ => xYv_70) (fun h => by cases h)
set_option maxRecDepth 20000 in
theorem xB_69 : xokB (xYt 69) (xVtl 69) := xB_step xB_70 rfl rfl xYa_69 (fun h => by cases h) (fun _ => xYv_69)
set_option maxRecDepth 20000 in
theorem xB_68 : xokB (xYt 68) (xVtl 68) := xB_step xB_69 rfl rfl xYa_68 (fun _ => xYv_68) (fun h => by cases h)
set_option maxRecDepth 20000 in
theorem xB_67 : xokB (xYt 67) (xVtl 67) := xB_step xB_68 rfl rfl xYa_67 (fun _ => xYv_67) (fun h => by cases h)
set_option maxRecDepth 20000 in
theorem xB_66 : xokB (xYt 66) (xVtl 66) := xB_step xB_67 rfl rfl xYa_66 (fun _ => xYv_66) (fun h => by cases h)
set_option maxRecDepth 20000 in
theorem xB_65 : xokB (xYt 65) (xVtl 65) := xB_step xB_66 rfl rfl xYa_65 (fun _ => xYv_65) (fun h => by cases h)
set_option maxRecDepth 20000 in
theorem xB_64 : xokB (xYt 64) (xVtl 64) := xB_step xB_65 rfl rfl xYa_64 (fun _ => xYv_64) (fun h => by cases h)
set_option maxRecDepth 20000 in
theorem xB_63 : xokB (xYt 63) (xVtl 63) := xB_step xB_64 rfl rfl xYa_63 (fun _ => xYv_63) (fun h => by cases h)
set_option maxRecDepth 20000 in
theorem xB_62 : xokB (xYt 62) (xVtl 62) := xB_step xB_63 rfl rfl xYa_62 (fun _ => xYv_62) (fun h => by cases h)
set_option maxRecDepth 20000 in
theorem xB_61 : xokB (xYt 61) (xVtl 61) := xB_step xB_62 rfl rfl xYa_61 (fun _ => xYv_61) (fun h => by cases h)
set_option maxRecDepth 20000 in
theorem xB_60 : xokB (xYt 60) (xVtl 60) := xB_step xB_61 rfl rfl xYa_60 (fun _ => xYv_60) (fun h => by cases h)
set_option maxRecDepth 20000 in
theorem xB_59 : xokB (xYt 59) (xVtl 59) := xB_step xB_60 rfl rfl xYa_59 (fun _ => xYv_59) (fun h => by cases h)
set_option maxRecDepth 20000 in
theorem xB_58 : xokB (xYt 58) (xVtl 58) := xB_step xB_59 rfl rfl xYa_58 (fun _ => xYv_58) (fun h => by cases h)
set_option maxRecDepth 20000 in
theorem xB_57 : xokB (xYt 57) (xVtl 57) := xB_step xB_58 rfl rfl xYa_57 (fun _ => xYv_57) (fun h => by cases h)
set_option maxRecDepth 20000 in
theorem xB_56 : xokB (xYt 56) (xVtl 56) := xB_step xB_57 rfl rfl xYa_56 (fun h => by cases h) (fun _ => xYv_56)
set_option maxRecDepth 20000 in
theorem xB_55 : xokB (xYt 55) (xVtl 55) := xB_step xB_56 rfl rfl xYa_55 (fun _ => xYv_55) (fun h => by cases h)
set_option maxRecDepth 20000 in
theorem xB_54 : xokB (xYt 54) (xVtl 54) := xB_step xB_55 rfl rfl xYa_54 (fun _ => xYv_54) (fun h => by cases h)
set_option maxRecDepth 20000 in
theorem xB_53 : xokB (xYt 53) (xVtl 53) := xB_step xB_54 rfl rfl xYa_53 (fun _ => xYv_53) (fun h => by cases h)
set_option maxRecDepth 20000 in
theorem xB_52 : xokB (xYt 52) (xVtl 52) := xB_step xB_53 rfl rfl xYa_52 (fun _ => xYv_52) (fun h => by cases h)
set_option maxRecDepth 20000 in
theorem xB_51 : xokB (xYt 51) (xVtl 51) := xB_step xB_52 rfl rfl xYa_51 (fun _ => xYv_51) (fun h => by cases h)
set_option maxRecDepth 20000 in
theorem xB_50 : xokB (xYt 50) (xVtl 50) := xB_step xB_51 rfl rfl xYa_50 (fun _ => xYv_50) (fun h => by cases h)
set_option maxRecDepth 20000 in
theorem xB_49 : xokB (xYt 49) (xVtl 49) := xB_step xB_50 rfl rfl xYa_49 (fun _ => xYv_49) (fun h => by cases h)
set_option maxRecDepth 20000 in
theorem xB_48 : xokB (xYt 48) (xVtl 48) := xB_step xB_49 rfl rfl xYa_48 (fun _ => xYv_48) (fun h => by cases h)
set_option maxRecDepth 20000 in
theorem xB_47 : xokB (xYt 47) (xVtl 47) := xB_step xB_48 rfl rfl xYa_47 (fun _ => xYv_47) (fun h => by cases h)
set_option maxRecDepth 20000 in
theorem xB_46 : xokB (xYt 46) (xVtl 46) := xB_step xB_47 rfl rfl xYa_46 (fun _ => xYv_46) (fun h => by cases h)
set_option maxRecDepth 20000 in
theorem xB_45 : xokB (xYt 45) (xVtl 45) := xB_step xB_46 rfl rfl xYa_45 (fun _ => xYv_45) (fun h => by cases h)
set_option maxRecDepth 20000 in
theorem xB_44 : xokB (xYt 44) (xVtl 44) := xB_step xB_45 rfl rfl xYa_44 (fun _ => xYv_44) (fun h => by cases h)
set_option maxRecDepth 20000 in
theorem xB_43 : xokB (xYt 43) (xVtl 43) := xB_step xB_44 rfl rfl xYa_43 (fun h => by cases h) (fun _ => xYv_43)
set_option maxRecDepth 20000 in
theorem xB_42 : xokB (xYt 42) (xVtl 42) := xB_step xB_43 rfl rfl xYa_42 (fun h => by cases h) (fun _ => xYv_42)
set_option maxRecDepth 20000 in
theorem xB_41 : xokB (xYt 41) (xVtl 41) := xB_step xB_42 rfl rfl xYa_41 (fun _ => xYv_41) (fun h => by cases h)
set_option maxRecDepth 20000 in
theorem xB_40 : xokB (xYt 40) (xVtl 40) := xB_step xB_41 rfl rfl xYa_40 (fun _ => xYv_40) (fun h => by cases h)
set_option maxRecDepth 20000 in
theorem xB_39 : xokB (xYt 39) (xVtl 39) := xB_step xB_40 rfl rfl xYa_39 (fun _ => xYv_39) (fun h => by cases h)
set_option maxRecDepth 20000 in
theorem xB_38 : xokB (xYt 38) (xVtl 38) := xB_step xB_39 rfl rfl xYa_38 (fun _ => xYv_38) (fun h => by cases h)
set_option maxRecDepth 20000 in
theorem xB_37 : xokB (xYt 37) (xVtl 37) := xB_step xB_38 rfl rfl xYa_37 (fun _ => xYv_37) (fun h => by cases h)
set_option maxRecDepth 20000 in
theorem xB_36 : xokB (xYt 36) (xVtl 36) := xB_step xB_37 rfl rfl xYa_36 (fun _ => xYv_36) (fun h => by cases h)
set_option maxRecDepth 20000 in
theorem xB_35 : xokB (xYt 35) (xVtl 35) := xB_step xB_36 rfl rfl xYa_35 (fun _ => xYv_35) (fun h => by cases h)
set_option maxRecDepth 20000 in
theorem xB_34 : xokB (xYt 34) (xVtl 34) := xB_step xB_35 rfl rfl xYa_34 (fun _ => xYv_34) (fun h => by cases h)
set_option maxRecDepth 20000 in
theorem xB_33 : xokB (xYt 33) (xVtl 33) := xB_step xB_34 rfl rfl xYa_33 (fun _ => xYv_33) (fun h => by cases h)
set_option maxRecDepth 20000 in
theorem xB_32 : xokB (xYt 32) (xVtl 32) := xB_step xB_33 rfl rfl xYa_32 (fun h => by cases h) (fun _ => xYv_32)
set_option maxRecDepth 20000 in
theorem xB_31 : xokB (xYt 31) (xVtl 31) := xB_step xB_32 rfl rfl xYa_31 (fun _ => xYv_31) (fun h => by cases h)
set_option maxRecDepth 20000 in
theorem xB_30 : xokB (xYt 30) (xVtl 30) := xB_step xB_31 rfl rfl xYa_30 (fun _ => xYv_30) (fun h => by cases h)
set_option maxRecDepth 20000 in
theorem xB_29 : xokB (xYt 29) (xVtl 29) := xB_step xB_30 rfl rfl xYa_29 (fun _ => xYv_29) (fun h => by cases h)
set_option maxRecDepth 20000 in
theorem xB_28 : xokB (xYt 28) (xVtl 28) := xB_step xB_29 rfl rfl xYa_28 (fun _ => xYv_28) (fun h => by cases h)
set_option maxRecDepth 20000 in
theorem xB_27 : xokB (xYt 27) (xVtl 27) := xB_step xB_28 rfl rfl xYa_27 (fun _ => xYv_27) (fun h => by cases h)
set_option maxRecDepth 20000 in
theorem xB_26 : xokB (xYt 26) (xVtl 26) := xB_step xB_27 rfl rfl xYa_26 (fun _ => xYv_26) (fun h => by cases h)
set_option maxRecDepth 20000 in
theorem xB_25 : xokB (xYt 25) (xVtl 25) := xB_step xB_26 rfl rfl xYa_25 (fun _ => xYv_25) (fun h => by cases h)
set_option maxRecDepth 20000 in
theorem xB_24 : xokB (xYt 24) (xVtl 24) := xB_step xB_25 rfl rfl xYa_24 (fun _ => xYv_24) (fun h => by cases h)
set_option maxRecDepth 20000 in
theorem xB_23 : xokB (xYt 23) (xVtl 23) := xB_step xB_24 rfl rfl xYa_23 (fun _ => xYv_23) (fun h => by cases h)
set_option maxRecDepth 20000 in
theorem xB_22 : xokB (xYt 22) (xVtl 22) := xB_step xB_23 rfl rfl xYa_22 (fun h => by cases h) (fun _ => xYv_22)
set_option maxRecDepth 20000 in
theorem xB_21 : xokB (xYt 21) (xVtl 21) := xB_step xB_22 rfl rfl xYa_21 (fun _ => xYv_21) (fun h => by cases h)
set_option maxRecDepth 20000 in
theorem xB_20 : xokB (xYt 20) (xVtl 20) := xB_step xB_21 rfl rfl xYa_20 (fun _ => xYv_20) (fun h => by cases h)
set_option maxRecDepth 20000 in
theorem xB_19 : xokB (xYt 19) (xVtl 19) := xB_step xB_20 rfl rfl xYa_19 (fun _ => xYv_19) (fun h => by cases h)
set_option maxRecDepth 20000 in
theorem xB_18 : xokB (xYt 18) (xVtl 18) := xB_step xB_19 rfl rfl xYa_18 (fun _ => xYv_18) (fun h => by cases h)
set_option maxRecDepth 20000 in
theorem xB_17 : xokB (xYt 17) (xVtl 17) := xB_step xB_18 rfl rfl xYa_17 (fun _ => xYv_17) (fun h => by cases h)
set_option maxRecDepth 20000 in
theorem xB_16 : xokB (xYt 16) (xVtl 16) := xB_step xB_17 rfl rfl xYa_16 (fun _ => xYv_16) (fun h => by cases h)
set_option maxRecDepth 20000 in
theorem xB_15 : xokB (xYt 15) (xVtl 15) := xB_step xB_16 rfl rfl xYa_15 (fun _ => xYv_15) (fun h => by cases h)
set_option maxRecDepth 20000 in
theorem xB_14 : xokB (xYt 14) (xVtl 14) := xB_step xB_15 rfl rfl xYa_14 (fun _ => xYv_14) (fun h => by cases h)
set_option maxRecDepth 20000 in
theorem xB_13 : xokB (xYt 13) (xVtl 13) := xB_step xB_14 rfl rfl xYa_13 (fun _ => xYv_13) (fun h => by cases h)
set_option maxRecDepth 20000 in
theorem xB_12 : xokB (xYt 12) (xVtl 12) := xB_step xB_13 rfl rfl xYa_12 (fun _ => xYv_12) (fun h => by cases h)
set_option maxRecDepth 20000 in
theorem xB_11 : xokB (xYt 11) (xVtl 11) := xB_step xB_12 rfl rfl xYa_11 (fun _ => xYv_11) (fun h => by cases h)
set_option maxRecDepth 20000 in
theorem xB_10 : xokB (xYt 10) (xVtl 10) := xB_step xB_11 rfl rfl xYa_10 (fun _ => xYv_10) (fun h => by cases h)
set_option maxRecDepth 20000 in
theorem xB_9 : xokB (xYt 9) (xVtl 9) := xB_step xB_10 rfl rfl xYa_9 (fun _ => xYv_9) (fun h => by cases h)
set_option maxRecDepth 20000 in
theorem xB_8 : xokB (xYt 8) (xVtl 8) := xB_step xB_9 rfl rfl xYa_8 (fun _ => xYv_8) (fun h => by cases h)
set_option maxRecDepth 20000 in
theorem xB_7 : xokB (xYt 7) (xVtl 7) := xB_step xB_8 rfl rfl xYa_7 (fun h => by cases h) (fun _ => xYv_7)
set_option maxRecDepth 20000 in
theorem xB_6 : xokB (xYt 6) (xVtl 6) := xB_step xB_7 rfl rfl xYa_6 (fun h => by cases h) (fun _ => xYv_6)
set_option maxRecDepth 20000 in
theorem xB_5 : xokB (xYt 5) (xVtl 5) := xB_step xB_6 rfl rfl xYa_5 (fun h => by cases h) (fun _ => xYv_5)
set_option maxRecDepth 20000 in
theorem xB_4 : xokB (xYt 4) (xVtl 4) := xB_step xB_5 rfl rfl xYa_4 (fun _ => xYv_4) (fun h => by cases h)
set_option maxRecDepth 20000 in
theorem xB_3 : xokB (xYt 3) (xVtl 3) := xB_step xB_4 rfl rfl xYa_3 (fun _ => xYv_3) (fun h => by cases h)
set_option maxRecDepth 20000 in
theorem xB_2 : xokB (xYt 2) (xVtl 2) := xB_step xB_3 rfl rfl xYa_2 (fun _ => xYv_2) (fun h => by cases h)
set_option maxRecDepth 20000 in
theorem xB_1 : xokB (xYt 1) (xVtl 1) := xB_step xB_2 rfl rfl xYa_1 (fun h => by cases h) (fun _ => xYv_1)
set_option maxRecDepth 20000 in
theorem xB_0 : xokB (xYt 0) (xVtl 0) := xB_step xB_1 rfl rfl xYa_0 (fun h => by cases h) (fun _ => xYv_0)
theorem xB_at : ∀ (is : List xInf) (bs : List Bool), xokB is bs → ∀ n i, xnth is n = some i → xokYi i ∧ ∃ b, xnth bs n = some b ∧ (b = true → xokVi i) ∧ (b = false → xokSi i)
  | [], _, _, _, _, h => by simp [xnth] at h
  | _ :: _, [], h, _, _, _ => h.elim
  | i :: is, b :: bs, h, 0, j, hj => by
    simp only [xnth, Option.some.injEq] at hj
    subst hj
    exact ⟨h.1, b, rfl, h.2.1, h.2.2.1⟩
  | _ :: is, _ :: bs, h, n + 1, j, hj => xB_at is bs h.2.2.2 n j hj
theorem xB_len : ∀ (is : List xInf) (bs : List Bool), xokB is bs → ∀ n, xnth is n = none → xnth bs n = none
  | [], [], _, _, _ => by simp [xnth]
  | [], _ :: _, h, _, _ => h.elim
  | _ :: _, [], h, _, _ => h.elim
  | _ :: _, _ :: _, _, 0, h => by simp [xnth] at h
  | _ :: is, _ :: bs, h, n + 1, hn => xB_len is bs h.2.2.2 n (by simpa [xnth] using hn)
theorem xB_all : xokB xYl xVl := xB_0
theorem xY_ok (y : Nat) : xokY xY y ∧ (xVt y = true → xokV xY y) ∧ (xVt y = false → xokS xY y) := by
  cases h : xnth xYl y with
  | some i =>
    obtain ⟨h1, b, h2, h3, h4⟩ := xB_at _ _ xB_all y i h
    have e : xY y = i := by unfold xY; rw [h]
    have e2 : xVt y = b := by unfold xVt; rw [h2]
    refine ⟨?_, fun z => ?_, fun z => ?_⟩
    · unfold xokY; rw [e]; exact h1
    · unfold xokV; rw [e]; exact h3 (e2 ▸ z)
    · unfold xokS; rw [e]; exact h4 (e2 ▸ z)
  | none =>
    have e : xY y = xY 5 := by unfold xY; rw [h]; rfl
    have e2 : xVt y = false := by unfold xVt; rw [xB_len _ _ xB_all y h]
    refine ⟨?_, fun z => absurd (e2.symm.trans z) (by decide), fun _ => ?_⟩
    · unfold xokY; rw [e]; exact xYa_5
    · unfold xokS; rw [e]; exact xYv_5
set_option maxRecDepth 20000 in
theorem xM_ok : xokM := by
  intro i
  match i with
  | 0 => exact ⟨(xm3 0 rfl rfl), (xm3 1 rfl rfl), (xm1 16 rfl rfl)⟩
  | 1 => exact ⟨(xm3 3 rfl rfl), (xm3 4 rfl rfl), (xm1 16 rfl rfl)⟩
  | 2 => exact ⟨(xm5 48 rfl rfl), (xm5 49 rfl rfl), (xm1 16 rfl rfl)⟩
  | 3 => exact ⟨(xm7 96 rfl rfl), (xm7 97 rfl rfl), (xm1 16 rfl rfl)⟩
  | _ + 4 => exact ⟨(xm7 93 rfl rfl), (xm7 94 rfl rfl), (xm1 16 rfl rfl)⟩
