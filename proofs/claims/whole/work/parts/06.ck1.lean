/-! the code rows hold: by the kernel, some sixty rows at a time -/
theorem ck_X7_isDigit : mChk mT RX7 cX7_isDigit P_X7_isDigit = true := by decide +kernel
theorem ck_X8_forget : mChk mT RX8 cX8_forget P_X8_forget = true := by decide +kernel
theorem ck_X8_add : mChk mT RX8 cX8_add P_X8_add = true := by decide +kernel
theorem ck_X8_pairOf : mChk mT RX8 cX8_pairOf P_X8_pairOf = true := by decide +kernel
theorem ck_X8_whoThrewTwice : mChk mT RX8 cX8_whoThrewTwice P_X8_whoThrewTwice = true := by decide +kernel
theorem ck_X8_falseRounds : mChk mT RX8 cX8_falseRounds P_X8_falseRounds = true := by decide +kernel
theorem ck_X8_isFalse : mChk mT RX8 cX8_isFalse P_X8_isFalse = true := by decide +kernel
theorem ck_X9_type : mChk mT RX9 cX9_type P_X9_type = true := by decide +kernel
theorem ck_X9_clear : mChk mT RX9 cX9_clear P_X9_clear = true := by decide +kernel
theorem ck_X9_gang : mChk mT RX9 cX9_gang P_X9_gang = true := by decide +kernel
theorem ck_X9_digger : mChk mT RX9 cX9_digger P_X9_digger = true := by decide +kernel
theorem ck_X9_spade : mChk mT RX9 cX9_spade P_X9_spade = true := by decide +kernel
theorem ck_X9_yard : mChk mT RX9 cX9_yard P_X9_yard = true := by decide +kernel
theorem ck_X9_may : mChk mT RX9 cX9_may P_X9_may = true := by decide +kernel
theorem ck_X9_throwWith : mChk mT RX9 cX9_throwWith P_X9_throwWith = true := by decide +kernel
theorem ck_X9_ends : mChk mT RX9 cX9_ends P_X9_ends = true := by decide +kernel
theorem ck_X9_breaks : mChk mT RX9 cX9_breaks P_X9_breaks = true := by decide +kernel
theorem ck_X9_now : mChk mT RX9 cX9_now P_X9_now = true := by decide +kernel
theorem ck_X9_anew : mChk mT RX9 cX9_anew P_X9_anew = true := by decide +kernel
theorem ck_X9_longest : mChk mT RX9 cX9_longest P_X9_longest = true := by decide +kernel
theorem ck_X9_begins : mChk mT RX9 cX9_begins P_X9_begins = true := by decide +kernel
theorem ck_X9_most : mChk mT RX9 cX9_most P_X9_most = true := by decide +kernel
theorem ck_X9_rings : mChk mT RX9 cX9_rings P_X9_rings = true := by decide +kernel
theorem ck_X9_meeting_c0 : mChk mT RX9 cX9_meeting P_X9_meeting_c0 = true := by decide +kernel
theorem ck_X9_meeting_c1 : mChk mT RX9 cX9_meeting P_X9_meeting_c1 = true := by decide +kernel
theorem ck_X9_meeting : mChk mT RX9 cX9_meeting P_X9_meeting = true := by
  show (P_X9_meeting_c0 ++ (P_X9_meeting_c1)).all _ = true
  simp only [List.all_append, Bool.and_eq_true]
  exact ⟨ck_X9_meeting_c0, ck_X9_meeting_c1⟩
theorem ck_X9_songs : mChk mT RX9 cX9_songs P_X9_songs = true := by decide +kernel
theorem ck_X9_hole : mChk mT RX9 cX9_hole P_X9_hole = true := by decide +kernel
theorem ck_X9_night : mChk mT RX9 cX9_night P_X9_night = true := by decide +kernel
theorem ck_X9_least : mChk mT RX9 cX9_least P_X9_least = true := by decide +kernel
theorem ck_X9_dry : mChk mT RX9 cX9_dry P_X9_dry = true := by decide +kernel
theorem ck_X9_tell : mChk mT RX9 cX9_tell P_X9_tell = true := by decide +kernel
theorem ck_X9_cheats : mChk mT RX9 cX9_cheats P_X9_cheats = true := by decide +kernel
theorem ck_X9_mark : mChk mT RX9 cX9_mark P_X9_mark = true := by decide +kernel
theorem ck_X9_keep : mChk mT RX9 cX9_keep P_X9_keep = true := by decide +kernel
theorem ck_X9_back : mChk mT RX9 cX9_back P_X9_back = true := by decide +kernel
theorem ck_X9_count : mChk mT RX9 cX9_count P_X9_count = true := by decide +kernel
theorem ck_X9_trace : mChk mT RX9 cX9_trace P_X9_trace = true := by decide +kernel
theorem ck_X9_imageAt : mChk mT RX9 cX9_imageAt P_X9_imageAt = true := by decide +kernel
theorem ck_X9_markAsPerson : mChk mT RX9 cX9_markAsPerson P_X9_markAsPerson = true := by decide +kernel
theorem ck_X9_markAsDigger : mChk mT RX9 cX9_markAsDigger P_X9_markAsDigger = true := by decide +kernel
theorem ck_X9_markAsSinger : mChk mT RX9 cX9_markAsSinger P_X9_markAsSinger = true := by decide +kernel
theorem ck_X9_markAsLeft : mChk mT RX9 cX9_markAsLeft P_X9_markAsLeft = true := by decide +kernel
theorem ck_X9_markAsProphet : mChk mT RX9 cX9_markAsProphet P_X9_markAsProphet = true := by decide +kernel
theorem ck_X9_markAsSlow : mChk mT RX9 cX9_markAsSlow P_X9_markAsSlow = true := by decide +kernel
theorem ck_X9_within : mChk mT RX9 cX9_within P_X9_within = true := by decide +kernel
theorem ck_X9_hasBit : mChk mT RX9 cX9_hasBit P_X9_hasBit = true := by decide +kernel
theorem ck_X9_asNumber : mChk mT RX9 cX9_asNumber P_X9_asNumber = true := by decide +kernel
theorem ck_X9_cell : mChk mT RX9 cX9_cell P_X9_cell = true := by decide +kernel
theorem ck_X9_put : mChk mT RX9 cX9_put P_X9_put = true := by decide +kernel
theorem ck_X9_fill : mChk mT RX9 cX9_fill P_X9_fill = true := by decide +kernel
theorem ck_X9_copy : mChk mT RX9 cX9_copy P_X9_copy = true := by decide +kernel
theorem ck_X9_quotient : mChk mT RX9 cX9_quotient P_X9_quotient = true := by decide +kernel
theorem ck_X9_remainder : mChk mT RX9 cX9_remainder P_X9_remainder = true := by decide +kernel
theorem ck_X10_in : mChk mT RX10 cX10_in P_X10_in = true := by decide +kernel
theorem ck_X10_type : mChk mT RX10 cX10_type P_X10_type = true := by decide +kernel
theorem ck_X10_clear : mChk mT RX10 cX10_clear P_X10_clear = true := by decide +kernel
theorem ck_X10_here : mChk mT RX10 cX10_here P_X10_here = true := by decide +kernel
theorem ck_X10_meaning : mChk mT RX10 cX10_meaning P_X10_meaning = true := by decide +kernel
theorem ck_X10_next_c0 : mChk mT RX10 cX10_next P_X10_next_c0 = true := by decide +kernel
theorem ck_X10_next_c1 : mChk mT RX10 cX10_next P_X10_next_c1 = true := by decide +kernel
theorem ck_X10_next_c2 : mChk mT RX10 cX10_next P_X10_next_c2 = true := by decide +kernel
theorem ck_X10_next : mChk mT RX10 cX10_next P_X10_next = true := by
  show (P_X10_next_c0 ++ (P_X10_next_c1 ++ (P_X10_next_c2))).all _ = true
  simp only [List.all_append, Bool.and_eq_true]
  exact ⟨ck_X10_next_c0, ck_X10_next_c1, ck_X10_next_c2⟩
theorem ck_X10_due : mChk mT RX10 cX10_due P_X10_due = true := by decide +kernel
theorem ck_X10_number : mChk mT RX10 cX10_number P_X10_number = true := by decide +kernel
theorem ck_X10_side : mChk mT RX10 cX10_side P_X10_side = true := by decide +kernel
theorem ck_X10_readItem_c0 : mChk mT RX10 cX10_readItem P_X10_readItem_c0 = true := by decide +kernel
theorem ck_X10_readItem_c1 : mChk mT RX10 cX10_readItem P_X10_readItem_c1 = true := by decide +kernel
theorem ck_X10_readItem_c2 : mChk mT RX10 cX10_readItem P_X10_readItem_c2 = true := by decide +kernel
theorem ck_X10_readItem : mChk mT RX10 cX10_readItem P_X10_readItem = true := by
  show (P_X10_readItem_c0 ++ (P_X10_readItem_c1 ++ (P_X10_readItem_c2))).all _ = true
  simp only [List.all_append, Bool.and_eq_true]
  exact ⟨ck_X10_readItem_c0, ck_X10_readItem_c1, ck_X10_readItem_c2⟩
theorem ck_X10_gang_c0 : mChk mT RX10 cX10_gang P_X10_gang_c0 = true := by decide +kernel
theorem ck_X10_gang_c1 : mChk mT RX10 cX10_gang P_X10_gang_c1 = true := by decide +kernel
theorem ck_X10_gang_c2 : mChk mT RX10 cX10_gang P_X10_gang_c2 = true := by decide +kernel
theorem ck_X10_gang : mChk mT RX10 cX10_gang P_X10_gang = true := by
  show (P_X10_gang_c0 ++ (P_X10_gang_c1 ++ (P_X10_gang_c2))).all _ = true
  simp only [List.all_append, Bool.and_eq_true]
  exact ⟨ck_X10_gang_c0, ck_X10_gang_c1, ck_X10_gang_c2⟩
theorem ck_X10_isDigger : mChk mT RX10 cX10_isDigger P_X10_isDigger = true := by decide +kernel
theorem ck_X10_isSpade : mChk mT RX10 cX10_isSpade P_X10_isSpade = true := by decide +kernel
theorem ck_X10_bitsIn : mChk mT RX10 cX10_bitsIn P_X10_bitsIn = true := by decide +kernel
theorem ck_X10_digger : mChk mT RX10 cX10_digger P_X10_digger = true := by decide +kernel
theorem ck_X10_spade : mChk mT RX10 cX10_spade P_X10_spade = true := by decide +kernel
theorem ck_X10_yard : mChk mT RX10 cX10_yard P_X10_yard = true := by decide +kernel
theorem ck_X10_mayNow : mChk mT RX10 cX10_mayNow P_X10_mayNow = true := by decide +kernel
theorem ck_X10_may : mChk mT RX10 cX10_may P_X10_may = true := by decide +kernel
theorem ck_X10_yardNow : mChk mT RX10 cX10_yardNow P_X10_yardNow = true := by decide +kernel
theorem ck_X10_throwWith_c0 : mChk mT RX10 cX10_throwWith P_X10_throwWith_c0 = true := by decide +kernel
