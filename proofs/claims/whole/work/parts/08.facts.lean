/-! FROM THE SMALL MACHINE TO THE LARGE ONE, 2: what the tables say of each method, of each class, of each call -/
theorem cwT0 : ∀ q ∈ mT_0, Cond.code q.1 q.2.1 q.2.2.1 q.2.2.2.1 ∈ lw_tbl := List.forall_mem_cons.mpr ⟨cw_J6_bitCount_0f7a4, List.forall_mem_cons.mpr ⟨cw_J13_bitCount_95d88, List.forall_mem_cons.mpr ⟨cw_J9_floorMod_7cf53, List.forall_mem_cons.mpr ⟨cw_J9_max_7cf53, List.forall_mem_cons.mpr ⟨cw_J9_min_7cf53, List.forall_mem_cons.mpr ⟨cw_J0_length_8abf5, List.forall_mem_cons.mpr ⟨cw_J0_coder_7d493, List.forall_mem_cons.mpr ⟨cw_J0_charAt_5068e, List.forall_mem_cons.mpr ⟨cw_J0_isLatin1_aae02, List.forall_mem_cons.mpr ⟨cw_J0_checkIndex_df160, List.forall_mem_cons.mpr ⟨cw_J1_charAt_3b067, List.forall_mem_cons.mpr ⟨cw_J3_checkIndex_8e157, List.forall_mem_cons.mpr ⟨cw_X0_work, List.forall_mem_cons.mpr ⟨cw_X0_look, List.forall_mem_cons.mpr ⟨cw_X0_findRounds, List.forall_mem_cons.mpr ⟨cw_X0_fits, List.forall_mem_cons.mpr ⟨cw_X0_bearable, List.forall_mem_cons.mpr ⟨cw_X0_place, List.forall_mem_cons.mpr ⟨cw_X0_placeWith, List.forall_mem_cons.mpr ⟨cw_X1_empty, List.forall_mem_cons.mpr ⟨cw_X1_hasDigger, List.forall_mem_cons.mpr ⟨cw_X1_hasSpade, List.forall_mem_cons.mpr ⟨cw_X1_hasYard, List.forall_mem_cons.mpr ⟨cw_X1_addDigger, List.forall_mem_cons.mpr ⟨cw_X1_addSpade, List.forall_mem_cons.mpr ⟨cw_X1_addYard, List.forall_mem_cons.mpr ⟨cw_X1_suits, List.forall_mem_cons.mpr ⟨cw_X1_product, List.forall_mem_cons.mpr ⟨cw_X1_clodsOf, List.forall_mem_cons.mpr ⟨cw_X1_allClods, List.forall_mem_cons.mpr ⟨cw_X1_yardOfClod, List.forall_mem_cons.mpr ⟨cw_X2_greatest, List.forall_mem_cons.mpr ⟨cw_X2_look, List.forall_mem_cons.mpr ⟨cw_X2_findChains, List.forall_mem_cons.mpr ⟨cw_X2_lengthenBy, List.forall_mem_cons.mpr ⟨cw_X2_lengthenToSpade, List.forall_mem_cons.mpr ⟨cw_X2_lengthenToDigger, List.forall_mem_cons.mpr ⟨cw_X2_bestLastSpade, List.forall_mem_cons.mpr ⟨cw_X2_follow, List.forall_mem_cons.mpr ⟨cw_X3_add, List.forall_mem_cons.mpr ⟨cw_X3_leastClods, List.forall_mem_cons.mpr ⟨cw_X3_neededWithin, List.forall_mem_cons.mpr ⟨cw_X4_hold, List.forall_mem_cons.mpr ⟨cw_X4_firstBeatWith, List.forall_mem_cons.mpr ⟨cw_X4_dugBy, List.forall_mem_cons.mpr ⟨cw_X5_reset, List.forall_mem_cons.mpr ⟨cw_X5_copyFrom, List.forall_mem_cons.mpr ⟨cw_X5_allows, fun _ h => absurd h List.not_mem_nil⟩⟩⟩⟩⟩⟩⟩⟩⟩⟩⟩⟩⟩⟩⟩⟩⟩⟩⟩⟩⟩⟩⟩⟩⟩⟩⟩⟩⟩⟩⟩⟩⟩⟩⟩⟩⟩⟩⟩⟩⟩⟩⟩⟩⟩⟩⟩⟩
theorem ckT0 : ∀ q ∈ mT_0, mChk mT q.1.cls q.2.1 q.2.2.2.2.2.2.2 = true := List.forall_mem_cons.mpr ⟨ck_J6_bitCount_0f7a4, List.forall_mem_cons.mpr ⟨ck_J13_bitCount_95d88, List.forall_mem_cons.mpr ⟨ck_J9_floorMod_7cf53, List.forall_mem_cons.mpr ⟨ck_J9_max_7cf53, List.forall_mem_cons.mpr ⟨ck_J9_min_7cf53, List.forall_mem_cons.mpr ⟨ck_J0_length_8abf5, List.forall_mem_cons.mpr ⟨ck_J0_coder_7d493, List.forall_mem_cons.mpr ⟨ck_J0_charAt_5068e, List.forall_mem_cons.mpr ⟨ck_J0_isLatin1_aae02, List.forall_mem_cons.mpr ⟨ck_J0_checkIndex_df160, List.forall_mem_cons.mpr ⟨ck_J1_charAt_3b067, List.forall_mem_cons.mpr ⟨ck_J3_checkIndex_8e157, List.forall_mem_cons.mpr ⟨ck_X0_work, List.forall_mem_cons.mpr ⟨ck_X0_look, List.forall_mem_cons.mpr ⟨ck_X0_findRounds, List.forall_mem_cons.mpr ⟨ck_X0_fits, List.forall_mem_cons.mpr ⟨ck_X0_bearable, List.forall_mem_cons.mpr ⟨ck_X0_place, List.forall_mem_cons.mpr ⟨ck_X0_placeWith, List.forall_mem_cons.mpr ⟨ck_X1_empty, List.forall_mem_cons.mpr ⟨ck_X1_hasDigger, List.forall_mem_cons.mpr ⟨ck_X1_hasSpade, List.forall_mem_cons.mpr ⟨ck_X1_hasYard, List.forall_mem_cons.mpr ⟨ck_X1_addDigger, List.forall_mem_cons.mpr ⟨ck_X1_addSpade, List.forall_mem_cons.mpr ⟨ck_X1_addYard, List.forall_mem_cons.mpr ⟨ck_X1_suits, List.forall_mem_cons.mpr ⟨ck_X1_product, List.forall_mem_cons.mpr ⟨ck_X1_clodsOf, List.forall_mem_cons.mpr ⟨ck_X1_allClods, List.forall_mem_cons.mpr ⟨ck_X1_yardOfClod, List.forall_mem_cons.mpr ⟨ck_X2_greatest, List.forall_mem_cons.mpr ⟨ck_X2_look, List.forall_mem_cons.mpr ⟨ck_X2_findChains, List.forall_mem_cons.mpr ⟨ck_X2_lengthenBy, List.forall_mem_cons.mpr ⟨ck_X2_lengthenToSpade, List.forall_mem_cons.mpr ⟨ck_X2_lengthenToDigger, List.forall_mem_cons.mpr ⟨ck_X2_bestLastSpade, List.forall_mem_cons.mpr ⟨ck_X2_follow, List.forall_mem_cons.mpr ⟨ck_X3_add, List.forall_mem_cons.mpr ⟨ck_X3_leastClods, List.forall_mem_cons.mpr ⟨ck_X3_neededWithin, List.forall_mem_cons.mpr ⟨ck_X4_hold, List.forall_mem_cons.mpr ⟨ck_X4_firstBeatWith, List.forall_mem_cons.mpr ⟨ck_X4_dugBy, List.forall_mem_cons.mpr ⟨ck_X5_reset, List.forall_mem_cons.mpr ⟨ck_X5_copyFrom, List.forall_mem_cons.mpr ⟨ck_X5_allows, fun _ h => absurd h List.not_mem_nil⟩⟩⟩⟩⟩⟩⟩⟩⟩⟩⟩⟩⟩⟩⟩⟩⟩⟩⟩⟩⟩⟩⟩⟩⟩⟩⟩⟩⟩⟩⟩⟩⟩⟩⟩⟩⟩⟩⟩⟩⟩⟩⟩⟩⟩⟩⟩⟩
theorem cwT1 : ∀ q ∈ mT_1, Cond.code q.1 q.2.1 q.2.2.1 q.2.2.2.1 ∈ lw_tbl := List.forall_mem_cons.mpr ⟨cw_X5_canThrow, List.forall_mem_cons.mpr ⟨cw_X5_earthOf, List.forall_mem_cons.mpr ⟨cw_X5_noteThrow, List.forall_mem_cons.mpr ⟨cw_X5_dig, List.forall_mem_cons.mpr ⟨cw_X5_endRound, List.forall_mem_cons.mpr ⟨cw_X6_part, List.forall_mem_cons.mpr ⟨cw_X6_partRest, List.forall_mem_cons.mpr ⟨cw_X6_offer, List.forall_mem_cons.mpr ⟨cw_X6_weigh, List.forall_mem_cons.mpr ⟨cw_X6_ringOf, List.forall_mem_cons.mpr ⟨cw_X7_hasRoomFor, List.forall_mem_cons.mpr ⟨cw_X7_append, List.forall_mem_cons.mpr ⟨cw_X7_wipe, List.forall_mem_cons.mpr ⟨cw_X7_readInto, List.forall_mem_cons.mpr ⟨cw_X7_readItem, List.forall_mem_cons.mpr ⟨cw_X7_readDigger, List.forall_mem_cons.mpr ⟨cw_X7_readSpade, List.forall_mem_cons.mpr ⟨cw_X7_readYard, List.forall_mem_cons.mpr ⟨cw_X7_takeWord, List.forall_mem_cons.mpr ⟨cw_X7_takeNumber, List.forall_mem_cons.mpr ⟨cw_X7_takeSemicolon, List.forall_mem_cons.mpr ⟨cw_X7_takes, List.forall_mem_cons.mpr ⟨cw_X7_cutIntoTokens, List.forall_mem_cons.mpr ⟨cw_X7_behindBlanks, List.forall_mem_cons.mpr ⟨cw_X7_endOfToken, List.forall_mem_cons.mpr ⟨cw_X7_tokenOf, List.forall_mem_cons.mpr ⟨cw_X7_numberOf, List.forall_mem_cons.mpr ⟨cw_X7_wordOf, List.forall_mem_cons.mpr ⟨cw_X7_isWord, List.forall_mem_cons.mpr ⟨cw_X7_isLetter, List.forall_mem_cons.mpr ⟨cw_X7_isDigit, List.forall_mem_cons.mpr ⟨cw_X8_forget, List.forall_mem_cons.mpr ⟨cw_X8_add, List.forall_mem_cons.mpr ⟨cw_X8_pairOf, List.forall_mem_cons.mpr ⟨cw_X8_whoThrewTwice, List.forall_mem_cons.mpr ⟨cw_X8_falseRounds, List.forall_mem_cons.mpr ⟨cw_X8_isFalse, List.forall_mem_cons.mpr ⟨cw_X9_type, List.forall_mem_cons.mpr ⟨cw_X9_clear, List.forall_mem_cons.mpr ⟨cw_X9_gang, List.forall_mem_cons.mpr ⟨cw_X9_digger, List.forall_mem_cons.mpr ⟨cw_X9_spade, List.forall_mem_cons.mpr ⟨cw_X9_yard, List.forall_mem_cons.mpr ⟨cw_X9_may, List.forall_mem_cons.mpr ⟨cw_X9_throwWith, List.forall_mem_cons.mpr ⟨cw_X9_ends, List.forall_mem_cons.mpr ⟨cw_X9_breaks, List.forall_mem_cons.mpr ⟨cw_X9_now, fun _ h => absurd h List.not_mem_nil⟩⟩⟩⟩⟩⟩⟩⟩⟩⟩⟩⟩⟩⟩⟩⟩⟩⟩⟩⟩⟩⟩⟩⟩⟩⟩⟩⟩⟩⟩⟩⟩⟩⟩⟩⟩⟩⟩⟩⟩⟩⟩⟩⟩⟩⟩⟩⟩
theorem ckT1 : ∀ q ∈ mT_1, mChk mT q.1.cls q.2.1 q.2.2.2.2.2.2.2 = true := List.forall_mem_cons.mpr ⟨ck_X5_canThrow, List.forall_mem_cons.mpr ⟨ck_X5_earthOf, List.forall_mem_cons.mpr ⟨ck_X5_noteThrow, List.forall_mem_cons.mpr ⟨ck_X5_dig, List.forall_mem_cons.mpr ⟨ck_X5_endRound, List.forall_mem_cons.mpr ⟨ck_X6_part, List.forall_mem_cons.mpr ⟨ck_X6_partRest, List.forall_mem_cons.mpr ⟨ck_X6_offer, List.forall_mem_cons.mpr ⟨ck_X6_weigh, List.forall_mem_cons.mpr ⟨ck_X6_ringOf, List.forall_mem_cons.mpr ⟨ck_X7_hasRoomFor, List.forall_mem_cons.mpr ⟨ck_X7_append, List.forall_mem_cons.mpr ⟨ck_X7_wipe, List.forall_mem_cons.mpr ⟨ck_X7_readInto, List.forall_mem_cons.mpr ⟨ck_X7_readItem, List.forall_mem_cons.mpr ⟨ck_X7_readDigger, List.forall_mem_cons.mpr ⟨ck_X7_readSpade, List.forall_mem_cons.mpr ⟨ck_X7_readYard, List.forall_mem_cons.mpr ⟨ck_X7_takeWord, List.forall_mem_cons.mpr ⟨ck_X7_takeNumber, List.forall_mem_cons.mpr ⟨ck_X7_takeSemicolon, List.forall_mem_cons.mpr ⟨ck_X7_takes, List.forall_mem_cons.mpr ⟨ck_X7_cutIntoTokens, List.forall_mem_cons.mpr ⟨ck_X7_behindBlanks, List.forall_mem_cons.mpr ⟨ck_X7_endOfToken, List.forall_mem_cons.mpr ⟨ck_X7_tokenOf, List.forall_mem_cons.mpr ⟨ck_X7_numberOf, List.forall_mem_cons.mpr ⟨ck_X7_wordOf, List.forall_mem_cons.mpr ⟨ck_X7_isWord, List.forall_mem_cons.mpr ⟨ck_X7_isLetter, List.forall_mem_cons.mpr ⟨ck_X7_isDigit, List.forall_mem_cons.mpr ⟨ck_X8_forget, List.forall_mem_cons.mpr ⟨ck_X8_add, List.forall_mem_cons.mpr ⟨ck_X8_pairOf, List.forall_mem_cons.mpr ⟨ck_X8_whoThrewTwice, List.forall_mem_cons.mpr ⟨ck_X8_falseRounds, List.forall_mem_cons.mpr ⟨ck_X8_isFalse, List.forall_mem_cons.mpr ⟨ck_X9_type, List.forall_mem_cons.mpr ⟨ck_X9_clear, List.forall_mem_cons.mpr ⟨ck_X9_gang, List.forall_mem_cons.mpr ⟨ck_X9_digger, List.forall_mem_cons.mpr ⟨ck_X9_spade, List.forall_mem_cons.mpr ⟨ck_X9_yard, List.forall_mem_cons.mpr ⟨ck_X9_may, List.forall_mem_cons.mpr ⟨ck_X9_throwWith, List.forall_mem_cons.mpr ⟨ck_X9_ends, List.forall_mem_cons.mpr ⟨ck_X9_breaks, List.forall_mem_cons.mpr ⟨ck_X9_now, fun _ h => absurd h List.not_mem_nil⟩⟩⟩⟩⟩⟩⟩⟩⟩⟩⟩⟩⟩⟩⟩⟩⟩⟩⟩⟩⟩⟩⟩⟩⟩⟩⟩⟩⟩⟩⟩⟩⟩⟩⟩⟩⟩⟩⟩⟩⟩⟩⟩⟩⟩⟩⟩⟩
theorem cwT2 : ∀ q ∈ mT_2, Cond.code q.1 q.2.1 q.2.2.1 q.2.2.2.1 ∈ lw_tbl := List.forall_mem_cons.mpr ⟨cw_X9_anew, List.forall_mem_cons.mpr ⟨cw_X9_longest, List.forall_mem_cons.mpr ⟨cw_X9_begins, List.forall_mem_cons.mpr ⟨cw_X9_most, List.forall_mem_cons.mpr ⟨cw_X9_rings, List.forall_mem_cons.mpr ⟨cw_X9_meeting, List.forall_mem_cons.mpr ⟨cw_X9_songs, List.forall_mem_cons.mpr ⟨cw_X9_hole, List.forall_mem_cons.mpr ⟨cw_X9_night, List.forall_mem_cons.mpr ⟨cw_X9_least, List.forall_mem_cons.mpr ⟨cw_X9_dry, List.forall_mem_cons.mpr ⟨cw_X9_tell, List.forall_mem_cons.mpr ⟨cw_X9_cheats, List.forall_mem_cons.mpr ⟨cw_X9_mark, List.forall_mem_cons.mpr ⟨cw_X9_keep, List.forall_mem_cons.mpr ⟨cw_X9_back, List.forall_mem_cons.mpr ⟨cw_X9_count, List.forall_mem_cons.mpr ⟨cw_X9_trace, List.forall_mem_cons.mpr ⟨cw_X9_imageAt, List.forall_mem_cons.mpr ⟨cw_X9_markAsPerson, List.forall_mem_cons.mpr ⟨cw_X9_markAsDigger, List.forall_mem_cons.mpr ⟨cw_X9_markAsSinger, List.forall_mem_cons.mpr ⟨cw_X9_markAsLeft, List.forall_mem_cons.mpr ⟨cw_X9_markAsProphet, List.forall_mem_cons.mpr ⟨cw_X9_markAsSlow, List.forall_mem_cons.mpr ⟨cw_X9_within, List.forall_mem_cons.mpr ⟨cw_X9_hasBit, List.forall_mem_cons.mpr ⟨cw_X9_asNumber, List.forall_mem_cons.mpr ⟨cw_X9_cell, List.forall_mem_cons.mpr ⟨cw_X9_put, List.forall_mem_cons.mpr ⟨cw_X9_fill, List.forall_mem_cons.mpr ⟨cw_X9_copy, List.forall_mem_cons.mpr ⟨cw_X9_quotient, List.forall_mem_cons.mpr ⟨cw_X9_remainder, List.forall_mem_cons.mpr ⟨cw_X10_in, List.forall_mem_cons.mpr ⟨cw_X10_type, List.forall_mem_cons.mpr ⟨cw_X10_clear, List.forall_mem_cons.mpr ⟨cw_X10_here, List.forall_mem_cons.mpr ⟨cw_X10_meaning, List.forall_mem_cons.mpr ⟨cw_X10_next, List.forall_mem_cons.mpr ⟨cw_X10_due, List.forall_mem_cons.mpr ⟨cw_X10_number, List.forall_mem_cons.mpr ⟨cw_X10_side, List.forall_mem_cons.mpr ⟨cw_X10_readItem, List.forall_mem_cons.mpr ⟨cw_X10_gang, List.forall_mem_cons.mpr ⟨cw_X10_isDigger, List.forall_mem_cons.mpr ⟨cw_X10_isSpade, List.forall_mem_cons.mpr ⟨cw_X10_bitsIn, fun _ h => absurd h List.not_mem_nil⟩⟩⟩⟩⟩⟩⟩⟩⟩⟩⟩⟩⟩⟩⟩⟩⟩⟩⟩⟩⟩⟩⟩⟩⟩⟩⟩⟩⟩⟩⟩⟩⟩⟩⟩⟩⟩⟩⟩⟩⟩⟩⟩⟩⟩⟩⟩⟩
theorem ckT2 : ∀ q ∈ mT_2, mChk mT q.1.cls q.2.1 q.2.2.2.2.2.2.2 = true := List.forall_mem_cons.mpr ⟨ck_X9_anew, List.forall_mem_cons.mpr ⟨ck_X9_longest, List.forall_mem_cons.mpr ⟨ck_X9_begins, List.forall_mem_cons.mpr ⟨ck_X9_most, List.forall_mem_cons.mpr ⟨ck_X9_rings, List.forall_mem_cons.mpr ⟨ck_X9_meeting, List.forall_mem_cons.mpr ⟨ck_X9_songs, List.forall_mem_cons.mpr ⟨ck_X9_hole, List.forall_mem_cons.mpr ⟨ck_X9_night, List.forall_mem_cons.mpr ⟨ck_X9_least, List.forall_mem_cons.mpr ⟨ck_X9_dry, List.forall_mem_cons.mpr ⟨ck_X9_tell, List.forall_mem_cons.mpr ⟨ck_X9_cheats, List.forall_mem_cons.mpr ⟨ck_X9_mark, List.forall_mem_cons.mpr ⟨ck_X9_keep, List.forall_mem_cons.mpr ⟨ck_X9_back, List.forall_mem_cons.mpr ⟨ck_X9_count, List.forall_mem_cons.mpr ⟨ck_X9_trace, List.forall_mem_cons.mpr ⟨ck_X9_imageAt, List.forall_mem_cons.mpr ⟨ck_X9_markAsPerson, List.forall_mem_cons.mpr ⟨ck_X9_markAsDigger, List.forall_mem_cons.mpr ⟨ck_X9_markAsSinger, List.forall_mem_cons.mpr ⟨ck_X9_markAsLeft, List.forall_mem_cons.mpr ⟨ck_X9_markAsProphet, List.forall_mem_cons.mpr ⟨ck_X9_markAsSlow, List.forall_mem_cons.mpr ⟨ck_X9_within, List.forall_mem_cons.mpr ⟨ck_X9_hasBit, List.forall_mem_cons.mpr ⟨ck_X9_asNumber, List.forall_mem_cons.mpr ⟨ck_X9_cell, List.forall_mem_cons.mpr ⟨ck_X9_put, List.forall_mem_cons.mpr ⟨ck_X9_fill, List.forall_mem_cons.mpr ⟨ck_X9_copy, List.forall_mem_cons.mpr ⟨ck_X9_quotient, List.forall_mem_cons.mpr ⟨ck_X9_remainder, List.forall_mem_cons.mpr ⟨ck_X10_in, List.forall_mem_cons.mpr ⟨ck_X10_type, List.forall_mem_cons.mpr ⟨ck_X10_clear, List.forall_mem_cons.mpr ⟨ck_X10_here, List.forall_mem_cons.mpr ⟨ck_X10_meaning, List.forall_mem_cons.mpr ⟨ck_X10_next, List.forall_mem_cons.mpr ⟨ck_X10_due, List.forall_mem_cons.mpr ⟨ck_X10_number, List.forall_mem_cons.mpr ⟨ck_X10_side, List.forall_mem_cons.mpr ⟨ck_X10_readItem, List.forall_mem_cons.mpr ⟨ck_X10_gang, List.forall_mem_cons.mpr ⟨ck_X10_isDigger, List.forall_mem_cons.mpr ⟨ck_X10_isSpade, List.forall_mem_cons.mpr ⟨ck_X10_bitsIn, fun _ h => absurd h List.not_mem_nil⟩⟩⟩⟩⟩⟩⟩⟩⟩⟩⟩⟩⟩⟩⟩⟩⟩⟩⟩⟩⟩⟩⟩⟩⟩⟩⟩⟩⟩⟩⟩⟩⟩⟩⟩⟩⟩⟩⟩⟩⟩⟩⟩⟩⟩⟩⟩⟩
theorem cwT3 : ∀ q ∈ mT_3, Cond.code q.1 q.2.1 q.2.2.1 q.2.2.2.1 ∈ lw_tbl := List.forall_mem_cons.mpr ⟨cw_X10_digger, List.forall_mem_cons.mpr ⟨cw_X10_spade, List.forall_mem_cons.mpr ⟨cw_X10_yard, List.forall_mem_cons.mpr ⟨cw_X10_mayNow, List.forall_mem_cons.mpr ⟨cw_X10_may, List.forall_mem_cons.mpr ⟨cw_X10_yardNow, List.forall_mem_cons.mpr ⟨cw_X10_throwWith, List.forall_mem_cons.mpr ⟨cw_X10_ends, List.forall_mem_cons.mpr ⟨cw_X10_breaks, List.forall_mem_cons.mpr ⟨cw_X10_now, List.forall_mem_cons.mpr ⟨cw_X10_anew, List.forall_mem_cons.mpr ⟨cw_X10_findEdges, List.forall_mem_cons.mpr ⟨cw_X10_begin, List.forall_mem_cons.mpr ⟨cw_X10_weight, List.forall_mem_cons.mpr ⟨cw_X10_findWays, List.forall_mem_cons.mpr ⟨cw_X10_augment, List.forall_mem_cons.mpr ⟨cw_X10_isLong, List.forall_mem_cons.mpr ⟨cw_X10_longestBy, List.forall_mem_cons.mpr ⟨cw_X10_longest, List.forall_mem_cons.mpr ⟨cw_X10_isUsed, List.forall_mem_cons.mpr ⟨cw_X10_leaves, List.forall_mem_cons.mpr ⟨cw_X10_begins, List.forall_mem_cons.mpr ⟨cw_X10_most, List.forall_mem_cons.mpr ⟨cw_X10_dugBy, List.forall_mem_cons.mpr ⟨cw_X10_part, List.forall_mem_cons.mpr ⟨cw_X10_isAhead, List.forall_mem_cons.mpr ⟨cw_X10_rings, List.forall_mem_cons.mpr ⟨cw_X10_stroke, List.forall_mem_cons.mpr ⟨cw_X10_allLeft, List.forall_mem_cons.mpr ⟨cw_X10_meeting, List.forall_mem_cons.mpr ⟨cw_X10_songs, List.forall_mem_cons.mpr ⟨cw_X10_hole, List.forall_mem_cons.mpr ⟨cw_X10_nextHole, List.forall_mem_cons.mpr ⟨cw_X10_isClosed, List.forall_mem_cons.mpr ⟨cw_X10_night, List.forall_mem_cons.mpr ⟨cw_X10_least, List.forall_mem_cons.mpr ⟨cw_X10_dry, List.forall_mem_cons.mpr ⟨cw_X10_tell, List.forall_mem_cons.mpr ⟨cw_X10_isFalse, List.forall_mem_cons.mpr ⟨cw_X10_cheats, List.forall_mem_cons.mpr ⟨cw_X10_mark, List.forall_mem_cons.mpr ⟨cw_X10_copy, List.forall_mem_cons.mpr ⟨cw_X10_keep, List.forall_mem_cons.mpr ⟨cw_X10_back, List.forall_mem_cons.mpr ⟨cw_X10_count, List.forall_mem_cons.mpr ⟨cw_X10_trace, fun _ h => absurd h List.not_mem_nil⟩⟩⟩⟩⟩⟩⟩⟩⟩⟩⟩⟩⟩⟩⟩⟩⟩⟩⟩⟩⟩⟩⟩⟩⟩⟩⟩⟩⟩⟩⟩⟩⟩⟩⟩⟩⟩⟩⟩⟩⟩⟩⟩⟩⟩⟩
theorem ckT3 : ∀ q ∈ mT_3, mChk mT q.1.cls q.2.1 q.2.2.2.2.2.2.2 = true := List.forall_mem_cons.mpr ⟨ck_X10_digger, List.forall_mem_cons.mpr ⟨ck_X10_spade, List.forall_mem_cons.mpr ⟨ck_X10_yard, List.forall_mem_cons.mpr ⟨ck_X10_mayNow, List.forall_mem_cons.mpr ⟨ck_X10_may, List.forall_mem_cons.mpr ⟨ck_X10_yardNow, List.forall_mem_cons.mpr ⟨ck_X10_throwWith, List.forall_mem_cons.mpr ⟨ck_X10_ends, List.forall_mem_cons.mpr ⟨ck_X10_breaks, List.forall_mem_cons.mpr ⟨ck_X10_now, List.forall_mem_cons.mpr ⟨ck_X10_anew, List.forall_mem_cons.mpr ⟨ck_X10_findEdges, List.forall_mem_cons.mpr ⟨ck_X10_begin, List.forall_mem_cons.mpr ⟨ck_X10_weight, List.forall_mem_cons.mpr ⟨ck_X10_findWays, List.forall_mem_cons.mpr ⟨ck_X10_augment, List.forall_mem_cons.mpr ⟨ck_X10_isLong, List.forall_mem_cons.mpr ⟨ck_X10_longestBy, List.forall_mem_cons.mpr ⟨ck_X10_longest, List.forall_mem_cons.mpr ⟨ck_X10_isUsed, List.forall_mem_cons.mpr ⟨ck_X10_leaves, List.forall_mem_cons.mpr ⟨ck_X10_begins, List.forall_mem_cons.mpr ⟨ck_X10_most, List.forall_mem_cons.mpr ⟨ck_X10_dugBy, List.forall_mem_cons.mpr ⟨ck_X10_part, List.forall_mem_cons.mpr ⟨ck_X10_isAhead, List.forall_mem_cons.mpr ⟨ck_X10_rings, List.forall_mem_cons.mpr ⟨ck_X10_stroke, List.forall_mem_cons.mpr ⟨ck_X10_allLeft, List.forall_mem_cons.mpr ⟨ck_X10_meeting, List.forall_mem_cons.mpr ⟨ck_X10_songs, List.forall_mem_cons.mpr ⟨ck_X10_hole, List.forall_mem_cons.mpr ⟨ck_X10_nextHole, List.forall_mem_cons.mpr ⟨ck_X10_isClosed, List.forall_mem_cons.mpr ⟨ck_X10_night, List.forall_mem_cons.mpr ⟨ck_X10_least, List.forall_mem_cons.mpr ⟨ck_X10_dry, List.forall_mem_cons.mpr ⟨ck_X10_tell, List.forall_mem_cons.mpr ⟨ck_X10_isFalse, List.forall_mem_cons.mpr ⟨ck_X10_cheats, List.forall_mem_cons.mpr ⟨ck_X10_mark, List.forall_mem_cons.mpr ⟨ck_X10_copy, List.forall_mem_cons.mpr ⟨ck_X10_keep, List.forall_mem_cons.mpr ⟨ck_X10_back, List.forall_mem_cons.mpr ⟨ck_X10_count, List.forall_mem_cons.mpr ⟨ck_X10_trace, fun _ h => absurd h List.not_mem_nil⟩⟩⟩⟩⟩⟩⟩⟩⟩⟩⟩⟩⟩⟩⟩⟩⟩⟩⟩⟩⟩⟩⟩⟩⟩⟩⟩⟩⟩⟩⟩⟩⟩⟩⟩⟩⟩⟩⟩⟩⟩⟩⟩⟩⟩⟩
theorem cwT : ∀ q ∈ mT, Cond.code q.1 q.2.1 q.2.2.1 q.2.2.2.1 ∈ lw_tbl := by
  intro q hq
  have h : q ∈ mT_0 ++ (mT_1 ++ (mT_2 ++ mT_3)) := hq
  simp only [List.mem_append] at h
  rcases h with h | h | h | h
  · exact cwT0 q h
  · exact cwT1 q h
  · exact cwT2 q h
  · exact cwT3 q h
theorem ckT : ∀ q ∈ mT, mChk mT q.1.cls q.2.1 q.2.2.2.2.2.2.2 = true := by
  intro q hq
  have h : q ∈ mT_0 ++ (mT_1 ++ (mT_2 ++ mT_3)) := hq
  simp only [List.mem_append] at h
  rcases h with h | h | h | h
  · exact ckT0 q h
  · exact ckT1 q h
  · exact ckT2 q h
  · exact ckT3 q h
theorem vwCl_sub : ∀ q ∈ vwCl, (∀ k, k < q.2.2 → (parseFieldDescriptor (q.2.1 k).2.2.1).isSome = true) := by decide +kernel
theorem vwCl_nm : ∀ q ∈ vwCl, ∀ a, a < q.2.2 → ∀ b, b < q.2.2 → a ≠ b → (q.2.1 a).2.1 ≠ (q.2.1 b).2.1 := List.forall_mem_cons.mpr ⟨nmX0, List.forall_mem_cons.mpr ⟨nmX1, List.forall_mem_cons.mpr ⟨nmX2, List.forall_mem_cons.mpr ⟨nmX3, List.forall_mem_cons.mpr ⟨nmX4, List.forall_mem_cons.mpr ⟨nmX5, List.forall_mem_cons.mpr ⟨nmX6, List.forall_mem_cons.mpr ⟨nmX7, List.forall_mem_cons.mpr ⟨nmX8, List.forall_mem_cons.mpr ⟨nmX9, List.forall_mem_cons.mpr ⟨nmX10, fun _ h => absurd h List.not_mem_nil⟩⟩⟩⟩⟩⟩⟩⟩⟩⟩⟩
theorem vwCl_ty {c : Nat} {q : vw_C} (h : vwCl[c]? = some q) : ∃ ty0 : Nat → FieldType, ∀ k, k < q.2.2 → parseFieldDescriptor (q.2.1 k).2.2.1 = some (ty0 k) := by
  refine ⟨fun k => (parseFieldDescriptor (q.2.1 k).2.2.1).getD .int, fun k hk => ?_⟩
  have h1 := vwCl_sub q (List.mem_of_getElem? h) k hk
  obtain ⟨v, hv⟩ := Option.isSome_iff_exists.mp h1
  show _ = some ((parseFieldDescriptor (q.2.1 k).2.2.1).getD .int)
  rw [hv]
  rfl
def mKind (k : Nat) (d : String) (fin : Bool) : Bool := match k with
  | 0 => decide (d = "I") && !fin
  | 5 => decide (d = "Z") && !fin
  | 1 => decide (d = "J") && !fin
  | 3 => decide (d = "LSpadeRings$Gang;") && !fin
  | 2 => true
  | _ => false
def layChk (p : Nat) : Bool := match lay p with
  | (4, c, fs) => match vwCl[c]? with
    | some q => Nat.beq fs.length q.2.2 && (List.range q.2.2).all (fun k => mKind (fs.getD k (0, 0)).1 (q.2.1 k).2.2.1 (q.2.1 k).2.2.2)
    | none => false
  | _ => true
theorem layChk_ok : ∀ p, p < 86 → layChk p = true := by decide +kernel
theorem lay_obj {p c : Nat} {fs : List (Nat × Nat)} (h : lay p = (4, c, fs)) : p < 86 ∧ ∃ q : vw_C, vwCl[c]? = some q ∧ fs.length = q.2.2 ∧ ∀ k, k < q.2.2 → mKind (fs.getD k (0, 0)).1 (q.2.1 k).2.2.1 (q.2.1 k).2.2.2 = true := by
  have hp : p < 86 := lay_lt (by rw [h]; simp)
  have h1 := layChk_ok p hp
  unfold layChk at h1
  rw [h] at h1
  simp only at h1
  cases hq : vwCl[c]? with
  | none => rw [hq] at h1; cases h1
  | some q =>
    rw [hq] at h1
    simp only [Bool.and_eq_true] at h1
    refine ⟨hp, q, rfl, Nat.eq_of_beq_eq_true h1.1, fun k hk => ?_⟩
    exact List.all_eq_true.mp h1.2 k (List.mem_range.mpr hk)
/-- what a checked call says -/
theorem chk_callS {own : String} {idx len z n : Nat} {t : List Nat} {cst : Int} (h : mChkL mT own (.invokestatic idx, len, z :: n :: t, cst) = true) : ∃ q, mT[z]? = some q ∧ q.2.2.2.2.1 = n ∧ ((Cond.methodLink own idx q.1 ∈ lw_G) ∨ (Cond.methodLinkNest own idx q.1 "SpadeRings" ∈ lw_G)) ∧ Cond.static q.1 ∈ lw_G := by
  have key : ∀ (f : MethodName → Bool) (A : MethodName → Prop), (∀ y, f y = true → A y) → mChkC mT own idx z n f = true → ∃ q, mT[z]? = some q ∧ q.2.2.2.2.1 = n ∧ A q.1 := by
    intro f A hf hc
    unfold mChkC at hc
    cases hz : mT[z]? with
    | none => rw [hz] at hc; cases hc
    | some q =>
      rw [hz] at hc
      simp only [Bool.and_eq_true] at hc
      exact ⟨q, rfl, Nat.eq_of_beq_eq_true hc.1, hf _ hc.2⟩
  match t, h with
  | [], h => exact absurd h (by simp [mChkL])
  | [_], h => exact absurd h (by simp [mChkL])
  | [_, _], h => exact absurd h (by simp [mChkL])
  | [0, w, ws], h =>
    obtain ⟨q, h1, h2, h3, h4⟩ := key (fun y => mWd w (.methodLink own idx y) && mWd ws (.static y)) (fun y => Cond.methodLink own idx y ∈ lw_G ∧ Cond.static y ∈ lw_G) (fun y hy => by
      rw [Bool.and_eq_true] at hy
      exact ⟨lw_G_in (mWd_in hy.1) rfl, lw_G_in (mWd_in hy.2) rfl⟩) h
    exact ⟨q, h1, h2, Or.inl h3, h4⟩
  | [1, w, ws], h =>
    obtain ⟨q, h1, h2, h3, h4⟩ := key (fun y => mWd w (.methodLinkNest own idx y "SpadeRings") && mWd ws (.static y)) (fun y => Cond.methodLinkNest own idx y "SpadeRings" ∈ lw_G ∧ Cond.static y ∈ lw_G) (fun y hy => by
      rw [Bool.and_eq_true] at hy
      exact ⟨lw_G_in (mWd_in hy.1) rfl, lw_G_in (mWd_in hy.2) rfl⟩) h
    exact ⟨q, h1, h2, Or.inr h3, h4⟩
  | [_ + 2, _, _], h => exact absurd h (by simp [mChkL])
  | _ :: _ :: _ :: _ :: _, h => exact absurd h (by simp [mChkL])
theorem chk_callV {own : String} {idx len z n ci : Nat} {t : List Nat} {cst : Int} (h : mChkL mT own (.invokevirtual idx, len, z :: n :: ci :: t, cst) = true) : ∃ q, mT[z]? = some q ∧ q.2.2.2.2.1 = n ∧ (Cond.methodLink own idx q.1 ∈ lw_G) ∧ Cond.instanceMethod q.1 ∈ lw_G ∧ Cond.selects q.1.cls q.1 q.1 ∈ lw_G ∧ (if ci = 50 then q.1.cls = "java/lang/String" else ∃ r : vw_C, vwCl[ci]? = some r ∧ q.1.cls = r.1) := by
  match t, h with
  | [], h => exact absurd h (by simp [mChkL])
  | [_], h => exact absurd h (by simp [mChkL])
  | [_, _], h => exact absurd h (by simp [mChkL])
  | [w, wi, ws], h =>
    unfold mChkL at h
    simp only at h
    unfold mChkC at h
    cases hz : mT[z]? with
    | none => rw [hz] at h; cases h
    | some q =>
      rw [hz] at h
      simp only [Bool.and_eq_true] at h
      obtain ⟨h1, ⟨⟨h2, h3⟩, h4⟩, h5⟩ := h
      refine ⟨q, rfl, Nat.eq_of_beq_eq_true h1, lw_G_in (mWd_in h2) rfl, lw_G_in (mWd_in h3) rfl, lw_G_in (mWd_in h4) rfl, ?_⟩
      by_cases hc : ci = 50
      · rw [if_pos hc] at h5 ⊢
        exact of_decide_eq_true h5
      · rw [if_neg hc] at h5 ⊢
        cases hr : vwCl[ci]? with
        | none => rw [hr] at h5; cases h5
        | some r => rw [hr] at h5; exact ⟨r, rfl, of_decide_eq_true h5⟩
  | _ :: _ :: _ :: _ :: _, h => exact absurd h (by simp [mChkL])
/-- what a checked method says -/
theorem chk_M {q : mM} (h : q ∈ mT) : Cond.code q.1 q.2.1 q.2.2.1 q.2.2.2.1 ∈ lw_G ∧ Cond.initialized q.1.cls ∈ lw_G ∧ (parseMethodDescriptor q.1.desc).map (fun d => d.parameters.length) = some q.2.2.2.2.1 ∧ plainFor q.1 = true ∧ q.1.cls ≠ "java/lang/invoke/MethodHandle" ∧ q.1.cls ≠ "java/lang/invoke/VarHandle" ∧ q.2.2.1 ≤ 40 := by
  have h1 := mT_ok q h
  obtain ⟨y, b, mx, rt, np, wc, wi, P⟩ := q
  unfold mChkM at h1
  simp only [Bool.and_eq_true] at h1
  obtain ⟨⟨⟨⟨⟨h2, h3⟩, h4⟩, h5⟩, h6⟩, h7⟩ := h1
  exact ⟨lw_G_in (cwT _ h) rfl, lw_G_in (mWd_in h2) rfl, of_decide_eq_true h3, h4, of_decide_eq_true h5, of_decide_eq_true h6, Nat.le_of_ble_eq_true h7⟩
theorem mAtL_mem {l : List (Nat × mE)} {pc : Nat} {e : mE} (h : mAtL l pc = some e) : (pc, e) ∈ l := by
  induction l with
  | nil => cases h
  | cons a l ih =>
    obtain ⟨k, x⟩ := a
    unfold mAtL at h
    by_cases hk : Nat.beq k pc = true
    · rw [hk] at h
      simp only [cond_true] at h
      cases h
      rw [Nat.eq_of_beq_eq_true hk]
      exact List.mem_cons_self
    · rw [Bool.not_eq_true] at hk
      rw [hk] at h
      simp only [cond_false] at h
      exact List.mem_cons_of_mem _ (ih h)
