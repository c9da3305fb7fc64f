/-! the code rows hold: by the kernel, some sixty rows at a time -/
theorem ck_X10_throwWith_c1 : mChk mT RX10 cX10_throwWith P_X10_throwWith_c1 = true := by decide +kernel
theorem ck_X10_throwWith_c2 : mChk mT RX10 cX10_throwWith P_X10_throwWith_c2 = true := by decide +kernel
theorem ck_X10_throwWith : mChk mT RX10 cX10_throwWith P_X10_throwWith = true := by
  show (P_X10_throwWith_c0 ++ (P_X10_throwWith_c1 ++ (P_X10_throwWith_c2))).all _ = true
  simp only [List.all_append, Bool.and_eq_true]
  exact ⟨ck_X10_throwWith_c0, ck_X10_throwWith_c1, ck_X10_throwWith_c2⟩
theorem ck_X10_ends_c0 : mChk mT RX10 cX10_ends P_X10_ends_c0 = true := by decide +kernel
theorem ck_X10_ends_c1 : mChk mT RX10 cX10_ends P_X10_ends_c1 = true := by decide +kernel
theorem ck_X10_ends : mChk mT RX10 cX10_ends P_X10_ends = true := by
  show (P_X10_ends_c0 ++ (P_X10_ends_c1)).all _ = true
  simp only [List.all_append, Bool.and_eq_true]
  exact ⟨ck_X10_ends_c0, ck_X10_ends_c1⟩
theorem ck_X10_breaks : mChk mT RX10 cX10_breaks P_X10_breaks = true := by decide +kernel
theorem ck_X10_now : mChk mT RX10 cX10_now P_X10_now = true := by decide +kernel
theorem ck_X10_anew : mChk mT RX10 cX10_anew P_X10_anew = true := by decide +kernel
theorem ck_X10_findEdges : mChk mT RX10 cX10_findEdges P_X10_findEdges = true := by decide +kernel
theorem ck_X10_begin : mChk mT RX10 cX10_begin P_X10_begin = true := by decide +kernel
theorem ck_X10_weight : mChk mT RX10 cX10_weight P_X10_weight = true := by decide +kernel
theorem ck_X10_findWays_c0 : mChk mT RX10 cX10_findWays P_X10_findWays_c0 = true := by decide +kernel
theorem ck_X10_findWays_c1 : mChk mT RX10 cX10_findWays P_X10_findWays_c1 = true := by decide +kernel
theorem ck_X10_findWays_c2 : mChk mT RX10 cX10_findWays P_X10_findWays_c2 = true := by decide +kernel
theorem ck_X10_findWays : mChk mT RX10 cX10_findWays P_X10_findWays = true := by
  show (P_X10_findWays_c0 ++ (P_X10_findWays_c1 ++ (P_X10_findWays_c2))).all _ = true
  simp only [List.all_append, Bool.and_eq_true]
  exact ⟨ck_X10_findWays_c0, ck_X10_findWays_c1, ck_X10_findWays_c2⟩
theorem ck_X10_augment_c0 : mChk mT RX10 cX10_augment P_X10_augment_c0 = true := by decide +kernel
theorem ck_X10_augment_c1 : mChk mT RX10 cX10_augment P_X10_augment_c1 = true := by decide +kernel
theorem ck_X10_augment : mChk mT RX10 cX10_augment P_X10_augment = true := by
  show (P_X10_augment_c0 ++ (P_X10_augment_c1)).all _ = true
  simp only [List.all_append, Bool.and_eq_true]
  exact ⟨ck_X10_augment_c0, ck_X10_augment_c1⟩
theorem ck_X10_isLong : mChk mT RX10 cX10_isLong P_X10_isLong = true := by decide +kernel
theorem ck_X10_longestBy : mChk mT RX10 cX10_longestBy P_X10_longestBy = true := by decide +kernel
theorem ck_X10_longest : mChk mT RX10 cX10_longest P_X10_longest = true := by decide +kernel
theorem ck_X10_isUsed : mChk mT RX10 cX10_isUsed P_X10_isUsed = true := by decide +kernel
theorem ck_X10_leaves : mChk mT RX10 cX10_leaves P_X10_leaves = true := by decide +kernel
theorem ck_X10_begins_c0 : mChk mT RX10 cX10_begins P_X10_begins_c0 = true := by decide +kernel
theorem ck_X10_begins_c1 : mChk mT RX10 cX10_begins P_X10_begins_c1 = true := by decide +kernel
theorem ck_X10_begins : mChk mT RX10 cX10_begins P_X10_begins = true := by
  show (P_X10_begins_c0 ++ (P_X10_begins_c1)).all _ = true
  simp only [List.all_append, Bool.and_eq_true]
  exact ⟨ck_X10_begins_c0, ck_X10_begins_c1⟩
theorem ck_X10_most : mChk mT RX10 cX10_most P_X10_most = true := by decide +kernel
theorem ck_X10_dugBy_c0 : mChk mT RX10 cX10_dugBy P_X10_dugBy_c0 = true := by decide +kernel
theorem ck_X10_dugBy_c1 : mChk mT RX10 cX10_dugBy P_X10_dugBy_c1 = true := by decide +kernel
theorem ck_X10_dugBy : mChk mT RX10 cX10_dugBy P_X10_dugBy = true := by
  show (P_X10_dugBy_c0 ++ (P_X10_dugBy_c1)).all _ = true
  simp only [List.all_append, Bool.and_eq_true]
  exact ⟨ck_X10_dugBy_c0, ck_X10_dugBy_c1⟩
theorem ck_X10_part_c0 : mChk mT RX10 cX10_part P_X10_part_c0 = true := by decide +kernel
theorem ck_X10_part_c1 : mChk mT RX10 cX10_part P_X10_part_c1 = true := by decide +kernel
theorem ck_X10_part : mChk mT RX10 cX10_part P_X10_part = true := by
  show (P_X10_part_c0 ++ (P_X10_part_c1)).all _ = true
  simp only [List.all_append, Bool.and_eq_true]
  exact ⟨ck_X10_part_c0, ck_X10_part_c1⟩
theorem ck_X10_isAhead : mChk mT RX10 cX10_isAhead P_X10_isAhead = true := by decide +kernel
theorem ck_X10_rings_c0 : mChk mT RX10 cX10_rings P_X10_rings_c0 = true := by decide +kernel
theorem ck_X10_rings_c1 : mChk mT RX10 cX10_rings P_X10_rings_c1 = true := by decide +kernel
theorem ck_X10_rings : mChk mT RX10 cX10_rings P_X10_rings = true := by
  show (P_X10_rings_c0 ++ (P_X10_rings_c1)).all _ = true
  simp only [List.all_append, Bool.and_eq_true]
  exact ⟨ck_X10_rings_c0, ck_X10_rings_c1⟩
theorem ck_X10_stroke_c0 : mChk mT RX10 cX10_stroke P_X10_stroke_c0 = true := by decide +kernel
theorem ck_X10_stroke_c1 : mChk mT RX10 cX10_stroke P_X10_stroke_c1 = true := by decide +kernel
theorem ck_X10_stroke : mChk mT RX10 cX10_stroke P_X10_stroke = true := by
  show (P_X10_stroke_c0 ++ (P_X10_stroke_c1)).all _ = true
  simp only [List.all_append, Bool.and_eq_true]
  exact ⟨ck_X10_stroke_c0, ck_X10_stroke_c1⟩
theorem ck_X10_allLeft : mChk mT RX10 cX10_allLeft P_X10_allLeft = true := by decide +kernel
theorem ck_X10_meeting_c0 : mChk mT RX10 cX10_meeting P_X10_meeting_c0 = true := by decide +kernel
theorem ck_X10_meeting_c1 : mChk mT RX10 cX10_meeting P_X10_meeting_c1 = true := by decide +kernel
theorem ck_X10_meeting : mChk mT RX10 cX10_meeting P_X10_meeting = true := by
  show (P_X10_meeting_c0 ++ (P_X10_meeting_c1)).all _ = true
  simp only [List.all_append, Bool.and_eq_true]
  exact ⟨ck_X10_meeting_c0, ck_X10_meeting_c1⟩
theorem ck_X10_songs : mChk mT RX10 cX10_songs P_X10_songs = true := by decide +kernel
theorem ck_X10_hole : mChk mT RX10 cX10_hole P_X10_hole = true := by decide +kernel
theorem ck_X10_nextHole : mChk mT RX10 cX10_nextHole P_X10_nextHole = true := by decide +kernel
theorem ck_X10_isClosed_c0 : mChk mT RX10 cX10_isClosed P_X10_isClosed_c0 = true := by decide +kernel
theorem ck_X10_isClosed_c1 : mChk mT RX10 cX10_isClosed P_X10_isClosed_c1 = true := by decide +kernel
theorem ck_X10_isClosed : mChk mT RX10 cX10_isClosed P_X10_isClosed = true := by
  show (P_X10_isClosed_c0 ++ (P_X10_isClosed_c1)).all _ = true
  simp only [List.all_append, Bool.and_eq_true]
  exact ⟨ck_X10_isClosed_c0, ck_X10_isClosed_c1⟩
theorem ck_X10_night : mChk mT RX10 cX10_night P_X10_night = true := by decide +kernel
theorem ck_X10_least : mChk mT RX10 cX10_least P_X10_least = true := by decide +kernel
theorem ck_X10_dry : mChk mT RX10 cX10_dry P_X10_dry = true := by decide +kernel
theorem ck_X10_tell : mChk mT RX10 cX10_tell P_X10_tell = true := by decide +kernel
theorem ck_X10_isFalse_c0 : mChk mT RX10 cX10_isFalse P_X10_isFalse_c0 = true := by decide +kernel
theorem ck_X10_isFalse_c1 : mChk mT RX10 cX10_isFalse P_X10_isFalse_c1 = true := by decide +kernel
theorem ck_X10_isFalse : mChk mT RX10 cX10_isFalse P_X10_isFalse = true := by
  show (P_X10_isFalse_c0 ++ (P_X10_isFalse_c1)).all _ = true
  simp only [List.all_append, Bool.and_eq_true]
  exact ⟨ck_X10_isFalse_c0, ck_X10_isFalse_c1⟩
theorem ck_X10_cheats_c0 : mChk mT RX10 cX10_cheats P_X10_cheats_c0 = true := by decide +kernel
theorem ck_X10_cheats_c1 : mChk mT RX10 cX10_cheats P_X10_cheats_c1 = true := by decide +kernel
theorem ck_X10_cheats : mChk mT RX10 cX10_cheats P_X10_cheats = true := by
  show (P_X10_cheats_c0 ++ (P_X10_cheats_c1)).all _ = true
  simp only [List.all_append, Bool.and_eq_true]
  exact ⟨ck_X10_cheats_c0, ck_X10_cheats_c1⟩
theorem ck_X10_mark_c0 : mChk mT RX10 cX10_mark P_X10_mark_c0 = true := by decide +kernel
theorem ck_X10_mark_c1 : mChk mT RX10 cX10_mark P_X10_mark_c1 = true := by decide +kernel
theorem ck_X10_mark : mChk mT RX10 cX10_mark P_X10_mark = true := by
  show (P_X10_mark_c0 ++ (P_X10_mark_c1)).all _ = true
  simp only [List.all_append, Bool.and_eq_true]
  exact ⟨ck_X10_mark_c0, ck_X10_mark_c1⟩
theorem ck_X10_copy : mChk mT RX10 cX10_copy P_X10_copy = true := by decide +kernel
theorem ck_X10_keep : mChk mT RX10 cX10_keep P_X10_keep = true := by decide +kernel
theorem ck_X10_back : mChk mT RX10 cX10_back P_X10_back = true := by decide +kernel
theorem ck_X10_count : mChk mT RX10 cX10_count P_X10_count = true := by decide +kernel
theorem ck_X10_trace : mChk mT RX10 cX10_trace P_X10_trace = true := by decide +kernel
theorem ck_L_law_c0 : mChk mT RL cL_law P_L_law_c0 = true := by decide +kernel
theorem ck_L_law_c1 : mChk mT RL cL_law P_L_law_c1 = true := by decide +kernel
theorem ck_L_law_c2 : mChk mT RL cL_law P_L_law_c2 = true := by decide +kernel
theorem ck_L_law_c3 : mChk mT RL cL_law P_L_law_c3 = true := by decide +kernel
theorem ck_L_law_c4 : mChk mT RL cL_law P_L_law_c4 = true := by decide +kernel
theorem ck_L_law_c5 : mChk mT RL cL_law P_L_law_c5 = true := by decide +kernel
theorem ck_L_law_c6 : mChk mT RL cL_law P_L_law_c6 = true := by decide +kernel
theorem ck_L_law_c7 : mChk mT RL cL_law P_L_law_c7 = true := by decide +kernel
theorem ck_L_law_c8 : mChk mT RL cL_law P_L_law_c8 = true := by decide +kernel
theorem ck_L_law_c9 : mChk mT RL cL_law P_L_law_c9 = true := by decide +kernel
theorem ck_L_law_c10 : mChk mT RL cL_law P_L_law_c10 = true := by decide +kernel
theorem ck_L_law_c11 : mChk mT RL cL_law P_L_law_c11 = true := by decide +kernel
theorem ck_L_law : mChk mT RL cL_law P_L_law = true := by
  show (P_L_law_c0 ++ (P_L_law_c1 ++ (P_L_law_c2 ++ (P_L_law_c3 ++ (P_L_law_c4 ++ (P_L_law_c5 ++ (P_L_law_c6 ++ (P_L_law_c7 ++ (P_L_law_c8 ++ (P_L_law_c9 ++ (P_L_law_c10 ++ (P_L_law_c11)))))))))))).all _ = true
  simp only [List.all_append, Bool.and_eq_true]
  exact ⟨ck_L_law_c0, ck_L_law_c1, ck_L_law_c2, ck_L_law_c3, ck_L_law_c4, ck_L_law_c5, ck_L_law_c6, ck_L_law_c7, ck_L_law_c8, ck_L_law_c9, ck_L_law_c10, ck_L_law_c11⟩
