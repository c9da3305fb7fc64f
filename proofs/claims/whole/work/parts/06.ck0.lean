/-! the code rows hold: by the kernel, some sixty rows at a time -/
theorem ck_J6_bitCount_0f7a4 : mChk mT RJ6 cJ6_bitCount_0f7a4 P_J6_bitCount_0f7a4 = true := by decide +kernel
theorem ck_J13_bitCount_95d88 : mChk mT RJ13 cJ13_bitCount_95d88 P_J13_bitCount_95d88 = true := by decide +kernel
theorem ck_J9_floorMod_7cf53 : mChk mT RJ9 cJ9_floorMod_7cf53 P_J9_floorMod_7cf53 = true := by decide +kernel
theorem ck_J9_max_7cf53 : mChk mT RJ9 cJ9_max_7cf53 P_J9_max_7cf53 = true := by decide +kernel
theorem ck_J9_min_7cf53 : mChk mT RJ9 cJ9_min_7cf53 P_J9_min_7cf53 = true := by decide +kernel
theorem ck_J0_length_8abf5 : mChk mT RJ0 cJ0_length_8abf5 P_J0_length_8abf5 = true := by decide +kernel
theorem ck_J0_coder_7d493 : mChk mT RJ0 cJ0_coder_7d493 P_J0_coder_7d493 = true := by decide +kernel
theorem ck_J0_charAt_5068e : mChk mT RJ0 cJ0_charAt_5068e P_J0_charAt_5068e = true := by decide +kernel
theorem ck_J0_isLatin1_aae02 : mChk mT RJ0 cJ0_isLatin1_aae02 P_J0_isLatin1_aae02 = true := by decide +kernel
theorem ck_J0_checkIndex_df160 : mChk mT RJ0 cJ0_checkIndex_df160 P_J0_checkIndex_df160 = true := by decide +kernel
theorem ck_J1_charAt_3b067 : mChk mT RJ1 cJ1_charAt_3b067 P_J1_charAt_3b067 = true := by decide +kernel
theorem ck_J3_checkIndex_8e157 : mChk mT RJ3 cJ3_checkIndex_8e157 P_J3_checkIndex_8e157 = true := by decide +kernel
theorem ck_X0_work : mChk mT RX0 cX0_work P_X0_work = true := by decide +kernel
theorem ck_X0_look : mChk mT RX0 cX0_look P_X0_look = true := by decide +kernel
theorem ck_X0_findRounds : mChk mT RX0 cX0_findRounds P_X0_findRounds = true := by decide +kernel
theorem ck_X0_fits : mChk mT RX0 cX0_fits P_X0_fits = true := by decide +kernel
theorem ck_X0_bearable : mChk mT RX0 cX0_bearable P_X0_bearable = true := by decide +kernel
theorem ck_X0_place : mChk mT RX0 cX0_place P_X0_place = true := by decide +kernel
theorem ck_X0_placeWith : mChk mT RX0 cX0_placeWith P_X0_placeWith = true := by decide +kernel
theorem ck_X1_empty : mChk mT RX1 cX1_empty P_X1_empty = true := by decide +kernel
theorem ck_X1_hasDigger : mChk mT RX1 cX1_hasDigger P_X1_hasDigger = true := by decide +kernel
theorem ck_X1_hasSpade : mChk mT RX1 cX1_hasSpade P_X1_hasSpade = true := by decide +kernel
theorem ck_X1_hasYard : mChk mT RX1 cX1_hasYard P_X1_hasYard = true := by decide +kernel
theorem ck_X1_addDigger : mChk mT RX1 cX1_addDigger P_X1_addDigger = true := by decide +kernel
theorem ck_X1_addSpade : mChk mT RX1 cX1_addSpade P_X1_addSpade = true := by decide +kernel
theorem ck_X1_addYard : mChk mT RX1 cX1_addYard P_X1_addYard = true := by decide +kernel
theorem ck_X1_suits : mChk mT RX1 cX1_suits P_X1_suits = true := by decide +kernel
theorem ck_X1_product : mChk mT RX1 cX1_product P_X1_product = true := by decide +kernel
theorem ck_X1_clodsOf : mChk mT RX1 cX1_clodsOf P_X1_clodsOf = true := by decide +kernel
theorem ck_X1_allClods : mChk mT RX1 cX1_allClods P_X1_allClods = true := by decide +kernel
theorem ck_X1_yardOfClod : mChk mT RX1 cX1_yardOfClod P_X1_yardOfClod = true := by decide +kernel
theorem ck_X2_greatest : mChk mT RX2 cX2_greatest P_X2_greatest = true := by decide +kernel
theorem ck_X2_look : mChk mT RX2 cX2_look P_X2_look = true := by decide +kernel
theorem ck_X2_findChains_c0 : mChk mT RX2 cX2_findChains P_X2_findChains_c0 = true := by decide +kernel
theorem ck_X2_findChains_c1 : mChk mT RX2 cX2_findChains P_X2_findChains_c1 = true := by decide +kernel
theorem ck_X2_findChains : mChk mT RX2 cX2_findChains P_X2_findChains = true := by
  show (P_X2_findChains_c0 ++ (P_X2_findChains_c1)).all _ = true
  simp only [List.all_append, Bool.and_eq_true]
  exact ⟨ck_X2_findChains_c0, ck_X2_findChains_c1⟩
theorem ck_X2_lengthenBy : mChk mT RX2 cX2_lengthenBy P_X2_lengthenBy = true := by decide +kernel
theorem ck_X2_lengthenToSpade : mChk mT RX2 cX2_lengthenToSpade P_X2_lengthenToSpade = true := by decide +kernel
theorem ck_X2_lengthenToDigger : mChk mT RX2 cX2_lengthenToDigger P_X2_lengthenToDigger = true := by decide +kernel
theorem ck_X2_bestLastSpade : mChk mT RX2 cX2_bestLastSpade P_X2_bestLastSpade = true := by decide +kernel
theorem ck_X2_follow : mChk mT RX2 cX2_follow P_X2_follow = true := by decide +kernel
theorem ck_X3_add : mChk mT RX3 cX3_add P_X3_add = true := by decide +kernel
theorem ck_X3_leastClods : mChk mT RX3 cX3_leastClods P_X3_leastClods = true := by decide +kernel
theorem ck_X3_neededWithin : mChk mT RX3 cX3_neededWithin P_X3_neededWithin = true := by decide +kernel
theorem ck_X4_hold_c0 : mChk mT RX4 cX4_hold P_X4_hold_c0 = true := by decide +kernel
theorem ck_X4_hold_c1 : mChk mT RX4 cX4_hold P_X4_hold_c1 = true := by decide +kernel
theorem ck_X4_hold : mChk mT RX4 cX4_hold P_X4_hold = true := by
  show (P_X4_hold_c0 ++ (P_X4_hold_c1)).all _ = true
  simp only [List.all_append, Bool.and_eq_true]
  exact ⟨ck_X4_hold_c0, ck_X4_hold_c1⟩
theorem ck_X4_firstBeatWith : mChk mT RX4 cX4_firstBeatWith P_X4_firstBeatWith = true := by decide +kernel
theorem ck_X4_dugBy : mChk mT RX4 cX4_dugBy P_X4_dugBy = true := by decide +kernel
theorem ck_X5_reset : mChk mT RX5 cX5_reset P_X5_reset = true := by decide +kernel
theorem ck_X5_copyFrom : mChk mT RX5 cX5_copyFrom P_X5_copyFrom = true := by decide +kernel
theorem ck_X5_allows : mChk mT RX5 cX5_allows P_X5_allows = true := by decide +kernel
theorem ck_X5_canThrow : mChk mT RX5 cX5_canThrow P_X5_canThrow = true := by decide +kernel
theorem ck_X5_earthOf : mChk mT RX5 cX5_earthOf P_X5_earthOf = true := by decide +kernel
theorem ck_X5_noteThrow : mChk mT RX5 cX5_noteThrow P_X5_noteThrow = true := by decide +kernel
theorem ck_X5_dig : mChk mT RX5 cX5_dig P_X5_dig = true := by decide +kernel
theorem ck_X5_endRound : mChk mT RX5 cX5_endRound P_X5_endRound = true := by decide +kernel
theorem ck_X6_part_c0 : mChk mT RX6 cX6_part P_X6_part_c0 = true := by decide +kernel
theorem ck_X6_part_c1 : mChk mT RX6 cX6_part P_X6_part_c1 = true := by decide +kernel
theorem ck_X6_part : mChk mT RX6 cX6_part P_X6_part = true := by
  show (P_X6_part_c0 ++ (P_X6_part_c1)).all _ = true
  simp only [List.all_append, Bool.and_eq_true]
  exact ⟨ck_X6_part_c0, ck_X6_part_c1⟩
theorem ck_X6_partRest : mChk mT RX6 cX6_partRest P_X6_partRest = true := by decide +kernel
theorem ck_X6_offer : mChk mT RX6 cX6_offer P_X6_offer = true := by decide +kernel
theorem ck_X6_weigh : mChk mT RX6 cX6_weigh P_X6_weigh = true := by decide +kernel
theorem ck_X6_ringOf : mChk mT RX6 cX6_ringOf P_X6_ringOf = true := by decide +kernel
theorem ck_X7_hasRoomFor : mChk mT RX7 cX7_hasRoomFor P_X7_hasRoomFor = true := by decide +kernel
theorem ck_X7_append : mChk mT RX7 cX7_append P_X7_append = true := by decide +kernel
theorem ck_X7_wipe : mChk mT RX7 cX7_wipe P_X7_wipe = true := by decide +kernel
theorem ck_X7_readInto : mChk mT RX7 cX7_readInto P_X7_readInto = true := by decide +kernel
theorem ck_X7_readItem : mChk mT RX7 cX7_readItem P_X7_readItem = true := by decide +kernel
theorem ck_X7_readDigger : mChk mT RX7 cX7_readDigger P_X7_readDigger = true := by decide +kernel
theorem ck_X7_readSpade : mChk mT RX7 cX7_readSpade P_X7_readSpade = true := by decide +kernel
theorem ck_X7_readYard : mChk mT RX7 cX7_readYard P_X7_readYard = true := by decide +kernel
theorem ck_X7_takeWord : mChk mT RX7 cX7_takeWord P_X7_takeWord = true := by decide +kernel
theorem ck_X7_takeNumber : mChk mT RX7 cX7_takeNumber P_X7_takeNumber = true := by decide +kernel
theorem ck_X7_takeSemicolon : mChk mT RX7 cX7_takeSemicolon P_X7_takeSemicolon = true := by decide +kernel
theorem ck_X7_takes : mChk mT RX7 cX7_takes P_X7_takes = true := by decide +kernel
theorem ck_X7_cutIntoTokens : mChk mT RX7 cX7_cutIntoTokens P_X7_cutIntoTokens = true := by decide +kernel
theorem ck_X7_behindBlanks : mChk mT RX7 cX7_behindBlanks P_X7_behindBlanks = true := by decide +kernel
theorem ck_X7_endOfToken : mChk mT RX7 cX7_endOfToken P_X7_endOfToken = true := by decide +kernel
theorem ck_X7_tokenOf : mChk mT RX7 cX7_tokenOf P_X7_tokenOf = true := by decide +kernel
theorem ck_X7_numberOf : mChk mT RX7 cX7_numberOf P_X7_numberOf = true := by decide +kernel
theorem ck_X7_wordOf : mChk mT RX7 cX7_wordOf P_X7_wordOf = true := by decide +kernel
theorem ck_X7_isWord : mChk mT RX7 cX7_isWord P_X7_isWord = true := by decide +kernel
theorem ck_X7_isLetter : mChk mT RX7 cX7_isLetter P_X7_isLetter = true := by decide +kernel
