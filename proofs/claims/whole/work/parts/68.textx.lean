/-! THE TEXT, read by the class: words, numbers, tokens -/
set_option maxRecDepth 20000 in
/-- checkIndex -/
theorem c_chk3 (d : Nat) (k n : Nat) (st : mSt) (h : k < n) (hn : n < 2 ^ 31) : mMC mT (d + 1) 11 [.int (nI k), .int (nI n), .ref 130] st (some (.int (nI k))) st := by
  refine mI_J3_checkIndex_8e157 (d := d + 0) (Nat.le_of_ble_eq_true rfl) (fun Q hq => ?_)
  show mW (mMC mT (d + 0)) (0, fun _ => 0) (mAtL P_J3_checkIndex_8e157) (some .int) Q 0 [some (.int (nI k)), some (.int (nI n)), some (.ref 130)] [] st
  refine w_blk 1 (pc' := 1) (ls' := [some (.int (nI k)), some (.int (nI n)), some (.ref 130)]) (sk' := [.int (nI k)]) (st' := st) (fun _ h => h) ?_
  refine w_if_lt rfl (fun hno => absurd hno (Int32.not_lt.mpr (nI_pos' (by omega)))) (fun _ => ?_)
  refine w_blk 2 (pc' := 6) (ls' := [some (.int (nI k)), some (.int (nI n)), some (.ref 130)]) (sk' := [.int (nI n), .int (nI k)]) (st' := st) (fun _ h => h) ?_
  refine w_cmp_lt rfl (fun _ => ?_) (fun hno => absurd (nI_lt h hn) hno)
  refine w_blk 1 (pc' := 17) (ls' := [some (.int (nI k)), some (.int (nI n)), some (.ref 130)]) (sk' := [.int (nI k)]) (st' := st) (fun _ h => h) ?_
  exact w_iret rfl rfl rfl hq
set_option maxRecDepth 20000 in
/-- checkIndex -/
theorem c_chk0 (d : Nat) (k n : Nat) (st : mSt) (h : k < n) (hn : n < 2 ^ 31) : mMC mT (d + 2) 9 [.int (nI k), .int (nI n)] st (none) st := by
  refine mI_J0_checkIndex_df160 (d := d + 1) (Nat.le_of_ble_eq_true rfl) (fun Q hq => ?_)
  show mW (mMC mT (d + 1)) (0, fun _ => 0) (mAtL P_J0_checkIndex_df160) none Q 0 [some (.int (nI k)), some (.int (nI n))] [] st
  refine w_blk 3 (pc' := 5) (ls' := [some (.int (nI k)), some (.int (nI n))]) (sk' := [.ref 130, .int (nI n), .int (nI k)]) (st' := st) (fun _ h => h) ?_
  have hc := c_chk3 (d + 0) k n st h hn
  refine w_callS (As := [.int (nI k), .int (nI n), .ref 130]) (rest := []) rfl rfl rfl (Nat.le_of_ble_eq_true rfl) (Nat.le_of_ble_eq_true rfl) hc ?_
  refine w_blk 1 (pc' := 9) (ls' := [some (.int (nI k)), some (.int (nI n))]) (sk' := []) (st' := st) (fun _ h => h) ?_
  exact w_vret rfl rfl hq
theorem by_0 : ∀ k, k < 6 → ((((bytK.getD 0 []).getD k 0) &&& 255).toUInt32 % 65536).toInt32 = nI ((wdK 0).getD k 0) := by decide +kernel
theorem chr_0 : ∀ k, k < 6 → narrow .char (.int (nI ((wdK 0).getD k 0))) = .int (nI ((wdK 0).getD k 0)) := by decide +kernel
set_option maxRecDepth 20000 in
/-- charAt of bytes -/
theorem c_charA0 (d : Nat) (k : Nat) (st : mSt) (h : k < 6) : mMC mT (d + 3) 10 [.ref 110, .int (nI k)] st (some (.int (nI ((wdK 0).getD k 0)))) st := by
  refine mI_J1_charAt_3b067 (d := d + 2) (Nat.le_of_ble_eq_true rfl) (fun Q hq => ?_)
  show mW (mMC mT (d + 2)) (0, fun _ => 0) (mAtL P_J1_charAt_3b067) (some .char) Q 0 [some (.ref 110), some (.int (nI k))] [] st
  refine w_blk 3 (pc' := 3) (ls' := [some (.ref 110), some (.int (nI k))]) (sk' := [.int (Int32.ofNat (lenK.getD 0 0)), .int (nI k)]) (st' := st) (fun _ h => h) ?_
  have hc := c_chk0 (d + 0) k 6 st h (by decide)
  refine w_callS (As := [.int (nI k), .int (nI 6)]) (rest := []) rfl rfl rfl (Nat.le_of_ble_eq_true rfl) (Nat.le_of_ble_eq_true rfl) hc ?_
  refine w_blk 2 (pc' := 8) (ls' := [some (.ref 110), some (.int (nI k))]) (sk' := [.int (nI k), .ref 110]) (st' := st) (fun _ h => h) ?_
  refine w_bald6 rfl rfl (vp_in_nI (n := k) (N := 6) h (by decide)) ?_
  rw [nI_clamp (show k < 2 ^ 31 by omega)]
  refine w_blk 3 (pc' := 14) (ls' := [some (.ref 110), some (.int (nI k))]) (sk' := [.int ((Int32.toUInt32 (((bytK.getD 0 []).getD k 0) &&& 255) % 65536).toInt32)]) (st' := st) (fun _ h => h) ?_
  rw [by_0 k h]
  exact w_iret rfl rfl (chr_0 k h) hq
set_option maxRecDepth 20000 in
/-- isLatin1 -/
theorem c_lat0 (d : Nat) (st : mSt) : mMC mT (d + 1) 8 [.ref 100] st (some (.int 1)) st := by
  refine mI_J0_isLatin1_aae02 (d := d + 0) (Nat.le_of_ble_eq_true rfl) (fun Q hq => ?_)
  show mW (mMC mT (d + 0)) (0, fun _ => 0) (mAtL P_J0_isLatin1_aae02) (some .boolean) Q 0 [some (.ref 100)] [] st
  refine w_blk 1 (pc' := 3) (ls' := [some (.ref 100)]) (sk' := [.int 1]) (st' := st) (fun _ h => h) ?_
  refine w_if_eq rfl (fun hno => absurd hno (by decide)) (fun _ => ?_)
  refine w_blk 1 (pc' := 7) (ls' := [some (.ref 100)]) (sk' := [.ref 100]) (st' := st) (fun _ h => h) ?_
  refine w_step (pc' := 10) (ls' := [some (.ref 100)]) (sk' := [.int 0]) (st' := st) rfl (fun K k => ⟨rfl, k⟩) ?_
  refine w_if_ne rfl (fun hno => absurd hno (fun h => h rfl)) (fun _ => ?_)
  refine w_blk 2 (pc' := 18) (ls' := [some (.ref 100)]) (sk' := [.int 1]) (st' := st) (fun _ h => h) ?_
  exact w_iret rfl rfl rfl hq
set_option maxRecDepth 20000 in
/-- coder -/
theorem c_codr0 (d : Nat) (st : mSt) : mMC mT (d + 1) 6 [.ref 100] st (some (.int 0)) st := by
  refine mI_J0_coder_7d493 (d := d + 0) (Nat.le_of_ble_eq_true rfl) (fun Q hq => ?_)
  show mW (mMC mT (d + 0)) (0, fun _ => 0) (mAtL P_J0_coder_7d493) (some .byte) Q 0 [some (.ref 100)] [] st
  refine w_blk 1 (pc' := 3) (ls' := [some (.ref 100)]) (sk' := [.int 1]) (st' := st) (fun _ h => h) ?_
  refine w_if_eq rfl (fun hno => absurd hno (by decide)) (fun _ => ?_)
  refine w_blk 1 (pc' := 7) (ls' := [some (.ref 100)]) (sk' := [.ref 100]) (st' := st) (fun _ h => h) ?_
  refine w_step (pc' := 10) (ls' := [some (.ref 100)]) (sk' := [.int 0]) (st' := st) rfl (fun K k => ⟨rfl, k⟩) ?_
  refine w_blk 1 (pc' := 14) (ls' := [some (.ref 100)]) (sk' := [.int 0]) (st' := st) (fun _ h => h) ?_
  exact w_iret rfl rfl rfl hq
set_option maxRecDepth 20000 in
/-- length -/
theorem c_slen0 (d : Nat) (st : mSt) : mMC mT (d + 2) 5 [.ref 100] st (some (.int (nI 6))) st := by
  refine mI_J0_length_8abf5 (d := d + 1) (Nat.le_of_ble_eq_true rfl) (fun Q hq => ?_)
  show mW (mMC mT (d + 1)) (0, fun _ => 0) (mAtL P_J0_length_8abf5) (some .int) Q 0 [some (.ref 100)] [] st
  refine w_blk 1 (pc' := 1) (ls' := [some (.ref 100)]) (sk' := [.ref 100]) (st' := st) (fun _ h => h) ?_
  refine w_step (pc' := 4) (ls' := [some (.ref 100)]) (sk' := [.ref 110]) (st' := st) rfl (fun K k => ⟨rfl, k⟩) ?_
  refine w_blk 2 (pc' := 6) (ls' := [some (.ref 100)]) (sk' := [.ref 100, .int (Int32.ofNat (lenK.getD 0 0))]) (st' := st) (fun _ h => h) ?_
  refine w_callV (As := [.ref 100]) (rest := [.int (Int32.ofNat (lenK.getD 0 0))]) rfl rfl rfl (Nat.le_of_ble_eq_true rfl) (Nat.le_of_ble_eq_true rfl) (by first | exact Or.inl ⟨rfl, rfl⟩ | exact Or.inr ⟨rfl, rfl⟩) (c_codr0 (d + 0) st) ?_
  refine w_blk 1 (pc' := 10) (ls' := [some (.ref 100)]) (sk' := [.int (nI 6)]) (st' := st) (fun _ h => h) ?_
  exact w_iret rfl rfl rfl hq
set_option maxRecDepth 20000 in
/-- charAt -/
theorem c_chr0 (d : Nat) (k : Nat) (st : mSt) (h : k < 6) : mMC mT (d + 4) 7 [.ref 100, .int (nI k)] st (some (.int (nI ((wdK 0).getD k 0)))) st := by
  refine mI_J0_charAt_5068e (d := d + 3) (Nat.le_of_ble_eq_true rfl) (fun Q hq => ?_)
  show mW (mMC mT (d + 3)) (0, fun _ => 0) (mAtL P_J0_charAt_5068e) (some .char) Q 0 [some (.ref 100), some (.int (nI k))] [] st
  refine w_blk 1 (pc' := 1) (ls' := [some (.ref 100), some (.int (nI k))]) (sk' := [.ref 100]) (st' := st) (fun _ h => h) ?_
  refine w_callV (As := [.ref 100]) (rest := []) rfl rfl rfl (Nat.le_of_ble_eq_true rfl) (Nat.le_of_ble_eq_true rfl) (by first | exact Or.inl ⟨rfl, rfl⟩ | exact Or.inr ⟨rfl, rfl⟩) (c_lat0 (d + 2) st) ?_
  refine w_if_eq rfl (fun hno => absurd hno (by decide)) (fun _ => ?_)
  refine w_blk 1 (pc' := 8) (ls' := [some (.ref 100), some (.int (nI k))]) (sk' := [.ref 100]) (st' := st) (fun _ h => h) ?_
  refine w_step (pc' := 11) (ls' := [some (.ref 100), some (.int (nI k))]) (sk' := [.ref 110]) (st' := st) rfl (fun K k => ⟨rfl, k⟩) ?_
  refine w_blk 1 (pc' := 12) (ls' := [some (.ref 100), some (.int (nI k))]) (sk' := [.int (nI k), .ref 110]) (st' := st) (fun _ h => h) ?_
  have hc := c_charA0 (d + 0) k st h
  refine w_callS (As := [.ref 110, .int (nI k)]) (rest := []) rfl rfl rfl (Nat.le_of_ble_eq_true rfl) (Nat.le_of_ble_eq_true rfl) hc ?_
  exact w_iret rfl rfl (chr_0 k h) hq
theorem by_1 : ∀ k, k < 5 → ((((bytK.getD 1 []).getD k 0) &&& 255).toUInt32 % 65536).toInt32 = nI ((wdK 1).getD k 0) := by decide +kernel
theorem chr_1 : ∀ k, k < 5 → narrow .char (.int (nI ((wdK 1).getD k 0))) = .int (nI ((wdK 1).getD k 0)) := by decide +kernel
set_option maxRecDepth 20000 in
/-- charAt of bytes -/
theorem c_charA1 (d : Nat) (k : Nat) (st : mSt) (h : k < 5) : mMC mT (d + 3) 10 [.ref 111, .int (nI k)] st (some (.int (nI ((wdK 1).getD k 0)))) st := by
  refine mI_J1_charAt_3b067 (d := d + 2) (Nat.le_of_ble_eq_true rfl) (fun Q hq => ?_)
  show mW (mMC mT (d + 2)) (0, fun _ => 0) (mAtL P_J1_charAt_3b067) (some .char) Q 0 [some (.ref 111), some (.int (nI k))] [] st
  refine w_blk 3 (pc' := 3) (ls' := [some (.ref 111), some (.int (nI k))]) (sk' := [.int (Int32.ofNat (lenK.getD 1 0)), .int (nI k)]) (st' := st) (fun _ h => h) ?_
  have hc := c_chk0 (d + 0) k 5 st h (by decide)
  refine w_callS (As := [.int (nI k), .int (nI 5)]) (rest := []) rfl rfl rfl (Nat.le_of_ble_eq_true rfl) (Nat.le_of_ble_eq_true rfl) hc ?_
  refine w_blk 2 (pc' := 8) (ls' := [some (.ref 111), some (.int (nI k))]) (sk' := [.int (nI k), .ref 111]) (st' := st) (fun _ h => h) ?_
  refine w_bald6 rfl rfl (vp_in_nI (n := k) (N := 5) h (by decide)) ?_
  rw [nI_clamp (show k < 2 ^ 31 by omega)]
  refine w_blk 3 (pc' := 14) (ls' := [some (.ref 111), some (.int (nI k))]) (sk' := [.int ((Int32.toUInt32 (((bytK.getD 1 []).getD k 0) &&& 255) % 65536).toInt32)]) (st' := st) (fun _ h => h) ?_
  rw [by_1 k h]
  exact w_iret rfl rfl (chr_1 k h) hq
set_option maxRecDepth 20000 in
/-- isLatin1 -/
theorem c_lat1 (d : Nat) (st : mSt) : mMC mT (d + 1) 8 [.ref 101] st (some (.int 1)) st := by
  refine mI_J0_isLatin1_aae02 (d := d + 0) (Nat.le_of_ble_eq_true rfl) (fun Q hq => ?_)
  show mW (mMC mT (d + 0)) (0, fun _ => 0) (mAtL P_J0_isLatin1_aae02) (some .boolean) Q 0 [some (.ref 101)] [] st
  refine w_blk 1 (pc' := 3) (ls' := [some (.ref 101)]) (sk' := [.int 1]) (st' := st) (fun _ h => h) ?_
  refine w_if_eq rfl (fun hno => absurd hno (by decide)) (fun _ => ?_)
  refine w_blk 1 (pc' := 7) (ls' := [some (.ref 101)]) (sk' := [.ref 101]) (st' := st) (fun _ h => h) ?_
  refine w_step (pc' := 10) (ls' := [some (.ref 101)]) (sk' := [.int 0]) (st' := st) rfl (fun K k => ⟨rfl, k⟩) ?_
  refine w_if_ne rfl (fun hno => absurd hno (fun h => h rfl)) (fun _ => ?_)
  refine w_blk 2 (pc' := 18) (ls' := [some (.ref 101)]) (sk' := [.int 1]) (st' := st) (fun _ h => h) ?_
  exact w_iret rfl rfl rfl hq
set_option maxRecDepth 20000 in
/-- coder -/
theorem c_codr1 (d : Nat) (st : mSt) : mMC mT (d + 1) 6 [.ref 101] st (some (.int 0)) st := by
  refine mI_J0_coder_7d493 (d := d + 0) (Nat.le_of_ble_eq_true rfl) (fun Q hq => ?_)
  show mW (mMC mT (d + 0)) (0, fun _ => 0) (mAtL P_J0_coder_7d493) (some .byte) Q 0 [some (.ref 101)] [] st
  refine w_blk 1 (pc' := 3) (ls' := [some (.ref 101)]) (sk' := [.int 1]) (st' := st) (fun _ h => h) ?_
  refine w_if_eq rfl (fun hno => absurd hno (by decide)) (fun _ => ?_)
  refine w_blk 1 (pc' := 7) (ls' := [some (.ref 101)]) (sk' := [.ref 101]) (st' := st) (fun _ h => h) ?_
  refine w_step (pc' := 10) (ls' := [some (.ref 101)]) (sk' := [.int 0]) (st' := st) rfl (fun K k => ⟨rfl, k⟩) ?_
  refine w_blk 1 (pc' := 14) (ls' := [some (.ref 101)]) (sk' := [.int 0]) (st' := st) (fun _ h => h) ?_
  exact w_iret rfl rfl rfl hq
set_option maxRecDepth 20000 in
/-- length -/
theorem c_slen1 (d : Nat) (st : mSt) : mMC mT (d + 2) 5 [.ref 101] st (some (.int (nI 5))) st := by
  refine mI_J0_length_8abf5 (d := d + 1) (Nat.le_of_ble_eq_true rfl) (fun Q hq => ?_)
  show mW (mMC mT (d + 1)) (0, fun _ => 0) (mAtL P_J0_length_8abf5) (some .int) Q 0 [some (.ref 101)] [] st
  refine w_blk 1 (pc' := 1) (ls' := [some (.ref 101)]) (sk' := [.ref 101]) (st' := st) (fun _ h => h) ?_
  refine w_step (pc' := 4) (ls' := [some (.ref 101)]) (sk' := [.ref 111]) (st' := st) rfl (fun K k => ⟨rfl, k⟩) ?_
  refine w_blk 2 (pc' := 6) (ls' := [some (.ref 101)]) (sk' := [.ref 101, .int (Int32.ofNat (lenK.getD 1 0))]) (st' := st) (fun _ h => h) ?_
  refine w_callV (As := [.ref 101]) (rest := [.int (Int32.ofNat (lenK.getD 1 0))]) rfl rfl rfl (Nat.le_of_ble_eq_true rfl) (Nat.le_of_ble_eq_true rfl) (by first | exact Or.inl ⟨rfl, rfl⟩ | exact Or.inr ⟨rfl, rfl⟩) (c_codr1 (d + 0) st) ?_
  refine w_blk 1 (pc' := 10) (ls' := [some (.ref 101)]) (sk' := [.int (nI 5)]) (st' := st) (fun _ h => h) ?_
  exact w_iret rfl rfl rfl hq
set_option maxRecDepth 20000 in
/-- charAt -/
theorem c_chr1 (d : Nat) (k : Nat) (st : mSt) (h : k < 5) : mMC mT (d + 4) 7 [.ref 101, .int (nI k)] st (some (.int (nI ((wdK 1).getD k 0)))) st := by
  refine mI_J0_charAt_5068e (d := d + 3) (Nat.le_of_ble_eq_true rfl) (fun Q hq => ?_)
  show mW (mMC mT (d + 3)) (0, fun _ => 0) (mAtL P_J0_charAt_5068e) (some .char) Q 0 [some (.ref 101), some (.int (nI k))] [] st
  refine w_blk 1 (pc' := 1) (ls' := [some (.ref 101), some (.int (nI k))]) (sk' := [.ref 101]) (st' := st) (fun _ h => h) ?_
  refine w_callV (As := [.ref 101]) (rest := []) rfl rfl rfl (Nat.le_of_ble_eq_true rfl) (Nat.le_of_ble_eq_true rfl) (by first | exact Or.inl ⟨rfl, rfl⟩ | exact Or.inr ⟨rfl, rfl⟩) (c_lat1 (d + 2) st) ?_
  refine w_if_eq rfl (fun hno => absurd hno (by decide)) (fun _ => ?_)
  refine w_blk 1 (pc' := 8) (ls' := [some (.ref 101), some (.int (nI k))]) (sk' := [.ref 101]) (st' := st) (fun _ h => h) ?_
  refine w_step (pc' := 11) (ls' := [some (.ref 101), some (.int (nI k))]) (sk' := [.ref 111]) (st' := st) rfl (fun K k => ⟨rfl, k⟩) ?_
  refine w_blk 1 (pc' := 12) (ls' := [some (.ref 101), some (.int (nI k))]) (sk' := [.int (nI k), .ref 111]) (st' := st) (fun _ h => h) ?_
  have hc := c_charA1 (d + 0) k st h
  refine w_callS (As := [.ref 111, .int (nI k)]) (rest := []) rfl rfl rfl (Nat.le_of_ble_eq_true rfl) (Nat.le_of_ble_eq_true rfl) hc ?_
  exact w_iret rfl rfl (chr_1 k h) hq
theorem by_2 : ∀ k, k < 4 → ((((bytK.getD 2 []).getD k 0) &&& 255).toUInt32 % 65536).toInt32 = nI ((wdK 2).getD k 0) := by decide +kernel
theorem chr_2 : ∀ k, k < 4 → narrow .char (.int (nI ((wdK 2).getD k 0))) = .int (nI ((wdK 2).getD k 0)) := by decide +kernel
set_option maxRecDepth 20000 in
/-- charAt of bytes -/
theorem c_charA2 (d : Nat) (k : Nat) (st : mSt) (h : k < 4) : mMC mT (d + 3) 10 [.ref 112, .int (nI k)] st (some (.int (nI ((wdK 2).getD k 0)))) st := by
  refine mI_J1_charAt_3b067 (d := d + 2) (Nat.le_of_ble_eq_true rfl) (fun Q hq => ?_)
  show mW (mMC mT (d + 2)) (0, fun _ => 0) (mAtL P_J1_charAt_3b067) (some .char) Q 0 [some (.ref 112), some (.int (nI k))] [] st
  refine w_blk 3 (pc' := 3) (ls' := [some (.ref 112), some (.int (nI k))]) (sk' := [.int (Int32.ofNat (lenK.getD 2 0)), .int (nI k)]) (st' := st) (fun _ h => h) ?_
  have hc := c_chk0 (d + 0) k 4 st h (by decide)
  refine w_callS (As := [.int (nI k), .int (nI 4)]) (rest := []) rfl rfl rfl (Nat.le_of_ble_eq_true rfl) (Nat.le_of_ble_eq_true rfl) hc ?_
  refine w_blk 2 (pc' := 8) (ls' := [some (.ref 112), some (.int (nI k))]) (sk' := [.int (nI k), .ref 112]) (st' := st) (fun _ h => h) ?_
  refine w_bald6 rfl rfl (vp_in_nI (n := k) (N := 4) h (by decide)) ?_
  rw [nI_clamp (show k < 2 ^ 31 by omega)]
  refine w_blk 3 (pc' := 14) (ls' := [some (.ref 112), some (.int (nI k))]) (sk' := [.int ((Int32.toUInt32 (((bytK.getD 2 []).getD k 0) &&& 255) % 65536).toInt32)]) (st' := st) (fun _ h => h) ?_
  rw [by_2 k h]
  exact w_iret rfl rfl (chr_2 k h) hq
set_option maxRecDepth 20000 in
/-- isLatin1 -/
theorem c_lat2 (d : Nat) (st : mSt) : mMC mT (d + 1) 8 [.ref 102] st (some (.int 1)) st := by
  refine mI_J0_isLatin1_aae02 (d := d + 0) (Nat.le_of_ble_eq_true rfl) (fun Q hq => ?_)
  show mW (mMC mT (d + 0)) (0, fun _ => 0) (mAtL P_J0_isLatin1_aae02) (some .boolean) Q 0 [some (.ref 102)] [] st
  refine w_blk 1 (pc' := 3) (ls' := [some (.ref 102)]) (sk' := [.int 1]) (st' := st) (fun _ h => h) ?_
  refine w_if_eq rfl (fun hno => absurd hno (by decide)) (fun _ => ?_)
  refine w_blk 1 (pc' := 7) (ls' := [some (.ref 102)]) (sk' := [.ref 102]) (st' := st) (fun _ h => h) ?_
  refine w_step (pc' := 10) (ls' := [some (.ref 102)]) (sk' := [.int 0]) (st' := st) rfl (fun K k => ⟨rfl, k⟩) ?_
  refine w_if_ne rfl (fun hno => absurd hno (fun h => h rfl)) (fun _ => ?_)
  refine w_blk 2 (pc' := 18) (ls' := [some (.ref 102)]) (sk' := [.int 1]) (st' := st) (fun _ h => h) ?_
  exact w_iret rfl rfl rfl hq
set_option maxRecDepth 20000 in
/-- coder -/
theorem c_codr2 (d : Nat) (st : mSt) : mMC mT (d + 1) 6 [.ref 102] st (some (.int 0)) st := by
  refine mI_J0_coder_7d493 (d := d + 0) (Nat.le_of_ble_eq_true rfl) (fun Q hq => ?_)
  show mW (mMC mT (d + 0)) (0, fun _ => 0) (mAtL P_J0_coder_7d493) (some .byte) Q 0 [some (.ref 102)] [] st
  refine w_blk 1 (pc' := 3) (ls' := [some (.ref 102)]) (sk' := [.int 1]) (st' := st) (fun _ h => h) ?_
  refine w_if_eq rfl (fun hno => absurd hno (by decide)) (fun _ => ?_)
  refine w_blk 1 (pc' := 7) (ls' := [some (.ref 102)]) (sk' := [.ref 102]) (st' := st) (fun _ h => h) ?_
  refine w_step (pc' := 10) (ls' := [some (.ref 102)]) (sk' := [.int 0]) (st' := st) rfl (fun K k => ⟨rfl, k⟩) ?_
  refine w_blk 1 (pc' := 14) (ls' := [some (.ref 102)]) (sk' := [.int 0]) (st' := st) (fun _ h => h) ?_
  exact w_iret rfl rfl rfl hq
set_option maxRecDepth 20000 in
/-- length -/
theorem c_slen2 (d : Nat) (st : mSt) : mMC mT (d + 2) 5 [.ref 102] st (some (.int (nI 4))) st := by
  refine mI_J0_length_8abf5 (d := d + 1) (Nat.le_of_ble_eq_true rfl) (fun Q hq => ?_)
  show mW (mMC mT (d + 1)) (0, fun _ => 0) (mAtL P_J0_length_8abf5) (some .int) Q 0 [some (.ref 102)] [] st
  refine w_blk 1 (pc' := 1) (ls' := [some (.ref 102)]) (sk' := [.ref 102]) (st' := st) (fun _ h => h) ?_
  refine w_step (pc' := 4) (ls' := [some (.ref 102)]) (sk' := [.ref 112]) (st' := st) rfl (fun K k => ⟨rfl, k⟩) ?_
  refine w_blk 2 (pc' := 6) (ls' := [some (.ref 102)]) (sk' := [.ref 102, .int (Int32.ofNat (lenK.getD 2 0))]) (st' := st) (fun _ h => h) ?_
  refine w_callV (As := [.ref 102]) (rest := [.int (Int32.ofNat (lenK.getD 2 0))]) rfl rfl rfl (Nat.le_of_ble_eq_true rfl) (Nat.le_of_ble_eq_true rfl) (by first | exact Or.inl ⟨rfl, rfl⟩ | exact Or.inr ⟨rfl, rfl⟩) (c_codr2 (d + 0) st) ?_
  refine w_blk 1 (pc' := 10) (ls' := [some (.ref 102)]) (sk' := [.int (nI 4)]) (st' := st) (fun _ h => h) ?_
  exact w_iret rfl rfl rfl hq
set_option maxRecDepth 20000 in
/-- charAt -/
theorem c_chr2 (d : Nat) (k : Nat) (st : mSt) (h : k < 4) : mMC mT (d + 4) 7 [.ref 102, .int (nI k)] st (some (.int (nI ((wdK 2).getD k 0)))) st := by
  refine mI_J0_charAt_5068e (d := d + 3) (Nat.le_of_ble_eq_true rfl) (fun Q hq => ?_)
  show mW (mMC mT (d + 3)) (0, fun _ => 0) (mAtL P_J0_charAt_5068e) (some .char) Q 0 [some (.ref 102), some (.int (nI k))] [] st
  refine w_blk 1 (pc' := 1) (ls' := [some (.ref 102), some (.int (nI k))]) (sk' := [.ref 102]) (st' := st) (fun _ h => h) ?_
  refine w_callV (As := [.ref 102]) (rest := []) rfl rfl rfl (Nat.le_of_ble_eq_true rfl) (Nat.le_of_ble_eq_true rfl) (by first | exact Or.inl ⟨rfl, rfl⟩ | exact Or.inr ⟨rfl, rfl⟩) (c_lat2 (d + 2) st) ?_
  refine w_if_eq rfl (fun hno => absurd hno (by decide)) (fun _ => ?_)
  refine w_blk 1 (pc' := 8) (ls' := [some (.ref 102), some (.int (nI k))]) (sk' := [.ref 102]) (st' := st) (fun _ h => h) ?_
  refine w_step (pc' := 11) (ls' := [some (.ref 102), some (.int (nI k))]) (sk' := [.ref 112]) (st' := st) rfl (fun K k => ⟨rfl, k⟩) ?_
  refine w_blk 1 (pc' := 12) (ls' := [some (.ref 102), some (.int (nI k))]) (sk' := [.int (nI k), .ref 112]) (st' := st) (fun _ h => h) ?_
  have hc := c_charA2 (d + 0) k st h
  refine w_callS (As := [.ref 112, .int (nI k)]) (rest := []) rfl rfl rfl (Nat.le_of_ble_eq_true rfl) (Nat.le_of_ble_eq_true rfl) hc ?_
  exact w_iret rfl rfl (chr_2 k h) hq
theorem by_3 : ∀ k, k < 5 → ((((bytK.getD 3 []).getD k 0) &&& 255).toUInt32 % 65536).toInt32 = nI ((wdK 3).getD k 0) := by decide +kernel
theorem chr_3 : ∀ k, k < 5 → narrow .char (.int (nI ((wdK 3).getD k 0))) = .int (nI ((wdK 3).getD k 0)) := by decide +kernel
set_option maxRecDepth 20000 in
/-- charAt of bytes -/
theorem c_charA3 (d : Nat) (k : Nat) (st : mSt) (h : k < 5) : mMC mT (d + 3) 10 [.ref 113, .int (nI k)] st (some (.int (nI ((wdK 3).getD k 0)))) st := by
  refine mI_J1_charAt_3b067 (d := d + 2) (Nat.le_of_ble_eq_true rfl) (fun Q hq => ?_)
  show mW (mMC mT (d + 2)) (0, fun _ => 0) (mAtL P_J1_charAt_3b067) (some .char) Q 0 [some (.ref 113), some (.int (nI k))] [] st
  refine w_blk 3 (pc' := 3) (ls' := [some (.ref 113), some (.int (nI k))]) (sk' := [.int (Int32.ofNat (lenK.getD 3 0)), .int (nI k)]) (st' := st) (fun _ h => h) ?_
  have hc := c_chk0 (d + 0) k 5 st h (by decide)
  refine w_callS (As := [.int (nI k), .int (nI 5)]) (rest := []) rfl rfl rfl (Nat.le_of_ble_eq_true rfl) (Nat.le_of_ble_eq_true rfl) hc ?_
  refine w_blk 2 (pc' := 8) (ls' := [some (.ref 113), some (.int (nI k))]) (sk' := [.int (nI k), .ref 113]) (st' := st) (fun _ h => h) ?_
  refine w_bald6 rfl rfl (vp_in_nI (n := k) (N := 5) h (by decide)) ?_
  rw [nI_clamp (show k < 2 ^ 31 by omega)]
  refine w_blk 3 (pc' := 14) (ls' := [some (.ref 113), some (.int (nI k))]) (sk' := [.int ((Int32.toUInt32 (((bytK.getD 3 []).getD k 0) &&& 255) % 65536).toInt32)]) (st' := st) (fun _ h => h) ?_
  rw [by_3 k h]
  exact w_iret rfl rfl (chr_3 k h) hq
set_option maxRecDepth 20000 in
/-- isLatin1 -/
theorem c_lat3 (d : Nat) (st : mSt) : mMC mT (d + 1) 8 [.ref 103] st (some (.int 1)) st := by
  refine mI_J0_isLatin1_aae02 (d := d + 0) (Nat.le_of_ble_eq_true rfl) (fun Q hq => ?_)
  show mW (mMC mT (d + 0)) (0, fun _ => 0) (mAtL P_J0_isLatin1_aae02) (some .boolean) Q 0 [some (.ref 103)] [] st
  refine w_blk 1 (pc' := 3) (ls' := [some (.ref 103)]) (sk' := [.int 1]) (st' := st) (fun _ h => h) ?_
  refine w_if_eq rfl (fun hno => absurd hno (by decide)) (fun _ => ?_)
  refine w_blk 1 (pc' := 7) (ls' := [some (.ref 103)]) (sk' := [.ref 103]) (st' := st) (fun _ h => h) ?_
  refine w_step (pc' := 10) (ls' := [some (.ref 103)]) (sk' := [.int 0]) (st' := st) rfl (fun K k => ⟨rfl, k⟩) ?_
  refine w_if_ne rfl (fun hno => absurd hno (fun h => h rfl)) (fun _ => ?_)
  refine w_blk 2 (pc' := 18) (ls' := [some (.ref 103)]) (sk' := [.int 1]) (st' := st) (fun _ h => h) ?_
  exact w_iret rfl rfl rfl hq
set_option maxRecDepth 20000 in
/-- coder -/
theorem c_codr3 (d : Nat) (st : mSt) : mMC mT (d + 1) 6 [.ref 103] st (some (.int 0)) st := by
  refine mI_J0_coder_7d493 (d := d + 0) (Nat.le_of_ble_eq_true rfl) (fun Q hq => ?_)
  show mW (mMC mT (d + 0)) (0, fun _ => 0) (mAtL P_J0_coder_7d493) (some .byte) Q 0 [some (.ref 103)] [] st
  refine w_blk 1 (pc' := 3) (ls' := [some (.ref 103)]) (sk' := [.int 1]) (st' := st) (fun _ h => h) ?_
  refine w_if_eq rfl (fun hno => absurd hno (by decide)) (fun _ => ?_)
  refine w_blk 1 (pc' := 7) (ls' := [some (.ref 103)]) (sk' := [.ref 103]) (st' := st) (fun _ h => h) ?_
  refine w_step (pc' := 10) (ls' := [some (.ref 103)]) (sk' := [.int 0]) (st' := st) rfl (fun K k => ⟨rfl, k⟩) ?_
  refine w_blk 1 (pc' := 14) (ls' := [some (.ref 103)]) (sk' := [.int 0]) (st' := st) (fun _ h => h) ?_
  exact w_iret rfl rfl rfl hq
set_option maxRecDepth 20000 in
/-- length -/
theorem c_slen3 (d : Nat) (st : mSt) : mMC mT (d + 2) 5 [.ref 103] st (some (.int (nI 5))) st := by
  refine mI_J0_length_8abf5 (d := d + 1) (Nat.le_of_ble_eq_true rfl) (fun Q hq => ?_)
  show mW (mMC mT (d + 1)) (0, fun _ => 0) (mAtL P_J0_length_8abf5) (some .int) Q 0 [some (.ref 103)] [] st
  refine w_blk 1 (pc' := 1) (ls' := [some (.ref 103)]) (sk' := [.ref 103]) (st' := st) (fun _ h => h) ?_
  refine w_step (pc' := 4) (ls' := [some (.ref 103)]) (sk' := [.ref 113]) (st' := st) rfl (fun K k => ⟨rfl, k⟩) ?_
  refine w_blk 2 (pc' := 6) (ls' := [some (.ref 103)]) (sk' := [.ref 103, .int (Int32.ofNat (lenK.getD 3 0))]) (st' := st) (fun _ h => h) ?_
  refine w_callV (As := [.ref 103]) (rest := [.int (Int32.ofNat (lenK.getD 3 0))]) rfl rfl rfl (Nat.le_of_ble_eq_true rfl) (Nat.le_of_ble_eq_true rfl) (by first | exact Or.inl ⟨rfl, rfl⟩ | exact Or.inr ⟨rfl, rfl⟩) (c_codr3 (d + 0) st) ?_
  refine w_blk 1 (pc' := 10) (ls' := [some (.ref 103)]) (sk' := [.int (nI 5)]) (st' := st) (fun _ h => h) ?_
  exact w_iret rfl rfl rfl hq
set_option maxRecDepth 20000 in
/-- charAt -/
theorem c_chr3 (d : Nat) (k : Nat) (st : mSt) (h : k < 5) : mMC mT (d + 4) 7 [.ref 103, .int (nI k)] st (some (.int (nI ((wdK 3).getD k 0)))) st := by
  refine mI_J0_charAt_5068e (d := d + 3) (Nat.le_of_ble_eq_true rfl) (fun Q hq => ?_)
  show mW (mMC mT (d + 3)) (0, fun _ => 0) (mAtL P_J0_charAt_5068e) (some .char) Q 0 [some (.ref 103), some (.int (nI k))] [] st
  refine w_blk 1 (pc' := 1) (ls' := [some (.ref 103), some (.int (nI k))]) (sk' := [.ref 103]) (st' := st) (fun _ h => h) ?_
  refine w_callV (As := [.ref 103]) (rest := []) rfl rfl rfl (Nat.le_of_ble_eq_true rfl) (Nat.le_of_ble_eq_true rfl) (by first | exact Or.inl ⟨rfl, rfl⟩ | exact Or.inr ⟨rfl, rfl⟩) (c_lat3 (d + 2) st) ?_
  refine w_if_eq rfl (fun hno => absurd hno (by decide)) (fun _ => ?_)
  refine w_blk 1 (pc' := 8) (ls' := [some (.ref 103), some (.int (nI k))]) (sk' := [.ref 103]) (st' := st) (fun _ h => h) ?_
  refine w_step (pc' := 11) (ls' := [some (.ref 103), some (.int (nI k))]) (sk' := [.ref 113]) (st' := st) rfl (fun K k => ⟨rfl, k⟩) ?_
  refine w_blk 1 (pc' := 12) (ls' := [some (.ref 103), some (.int (nI k))]) (sk' := [.int (nI k), .ref 113]) (st' := st) (fun _ h => h) ?_
  have hc := c_charA3 (d + 0) k st h
  refine w_callS (As := [.ref 113, .int (nI k)]) (rest := []) rfl rfl rfl (Nat.le_of_ble_eq_true rfl) (Nat.le_of_ble_eq_true rfl) hc ?_
  exact w_iret rfl rfl (chr_3 k h) hq
theorem by_4 : ∀ k, k < 4 → ((((bytK.getD 4 []).getD k 0) &&& 255).toUInt32 % 65536).toInt32 = nI ((wdK 4).getD k 0) := by decide +kernel
theorem chr_4 : ∀ k, k < 4 → narrow .char (.int (nI ((wdK 4).getD k 0))) = .int (nI ((wdK 4).getD k 0)) := by decide +kernel
set_option maxRecDepth 20000 in
/-- charAt of bytes -/
theorem c_charA4 (d : Nat) (k : Nat) (st : mSt) (h : k < 4) : mMC mT (d + 3) 10 [.ref 114, .int (nI k)] st (some (.int (nI ((wdK 4).getD k 0)))) st := by
  refine mI_J1_charAt_3b067 (d := d + 2) (Nat.le_of_ble_eq_true rfl) (fun Q hq => ?_)
  show mW (mMC mT (d + 2)) (0, fun _ => 0) (mAtL P_J1_charAt_3b067) (some .char) Q 0 [some (.ref 114), some (.int (nI k))] [] st
  refine w_blk 3 (pc' := 3) (ls' := [some (.ref 114), some (.int (nI k))]) (sk' := [.int (Int32.ofNat (lenK.getD 4 0)), .int (nI k)]) (st' := st) (fun _ h => h) ?_
  have hc := c_chk0 (d + 0) k 4 st h (by decide)
  refine w_callS (As := [.int (nI k), .int (nI 4)]) (rest := []) rfl rfl rfl (Nat.le_of_ble_eq_true rfl) (Nat.le_of_ble_eq_true rfl) hc ?_
  refine w_blk 2 (pc' := 8) (ls' := [some (.ref 114), some (.int (nI k))]) (sk' := [.int (nI k), .ref 114]) (st' := st) (fun _ h => h) ?_
  refine w_bald6 rfl rfl (vp_in_nI (n := k) (N := 4) h (by decide)) ?_
  rw [nI_clamp (show k < 2 ^ 31 by omega)]
  refine w_blk 3 (pc' := 14) (ls' := [some (.ref 114), some (.int (nI k))]) (sk' := [.int ((Int32.toUInt32 (((bytK.getD 4 []).getD k 0) &&& 255) % 65536).toInt32)]) (st' := st) (fun _ h => h) ?_
  rw [by_4 k h]
  exact w_iret rfl rfl (chr_4 k h) hq
set_option maxRecDepth 20000 in
/-- isLatin1 -/
theorem c_lat4 (d : Nat) (st : mSt) : mMC mT (d + 1) 8 [.ref 104] st (some (.int 1)) st := by
  refine mI_J0_isLatin1_aae02 (d := d + 0) (Nat.le_of_ble_eq_true rfl) (fun Q hq => ?_)
  show mW (mMC mT (d + 0)) (0, fun _ => 0) (mAtL P_J0_isLatin1_aae02) (some .boolean) Q 0 [some (.ref 104)] [] st
  refine w_blk 1 (pc' := 3) (ls' := [some (.ref 104)]) (sk' := [.int 1]) (st' := st) (fun _ h => h) ?_
  refine w_if_eq rfl (fun hno => absurd hno (by decide)) (fun _ => ?_)
  refine w_blk 1 (pc' := 7) (ls' := [some (.ref 104)]) (sk' := [.ref 104]) (st' := st) (fun _ h => h) ?_
  refine w_step (pc' := 10) (ls' := [some (.ref 104)]) (sk' := [.int 0]) (st' := st) rfl (fun K k => ⟨rfl, k⟩) ?_
  refine w_if_ne rfl (fun hno => absurd hno (fun h => h rfl)) (fun _ => ?_)
  refine w_blk 2 (pc' := 18) (ls' := [some (.ref 104)]) (sk' := [.int 1]) (st' := st) (fun _ h => h) ?_
  exact w_iret rfl rfl rfl hq
set_option maxRecDepth 20000 in
/-- coder -/
theorem c_codr4 (d : Nat) (st : mSt) : mMC mT (d + 1) 6 [.ref 104] st (some (.int 0)) st := by
  refine mI_J0_coder_7d493 (d := d + 0) (Nat.le_of_ble_eq_true rfl) (fun Q hq => ?_)
  show mW (mMC mT (d + 0)) (0, fun _ => 0) (mAtL P_J0_coder_7d493) (some .byte) Q 0 [some (.ref 104)] [] st
  refine w_blk 1 (pc' := 3) (ls' := [some (.ref 104)]) (sk' := [.int 1]) (st' := st) (fun _ h => h) ?_
  refine w_if_eq rfl (fun hno => absurd hno (by decide)) (fun _ => ?_)
  refine w_blk 1 (pc' := 7) (ls' := [some (.ref 104)]) (sk' := [.ref 104]) (st' := st) (fun _ h => h) ?_
  refine w_step (pc' := 10) (ls' := [some (.ref 104)]) (sk' := [.int 0]) (st' := st) rfl (fun K k => ⟨rfl, k⟩) ?_
  refine w_blk 1 (pc' := 14) (ls' := [some (.ref 104)]) (sk' := [.int 0]) (st' := st) (fun _ h => h) ?_
  exact w_iret rfl rfl rfl hq
set_option maxRecDepth 20000 in
/-- length -/
theorem c_slen4 (d : Nat) (st : mSt) : mMC mT (d + 2) 5 [.ref 104] st (some (.int (nI 4))) st := by
  refine mI_J0_length_8abf5 (d := d + 1) (Nat.le_of_ble_eq_true rfl) (fun Q hq => ?_)
  show mW (mMC mT (d + 1)) (0, fun _ => 0) (mAtL P_J0_length_8abf5) (some .int) Q 0 [some (.ref 104)] [] st
  refine w_blk 1 (pc' := 1) (ls' := [some (.ref 104)]) (sk' := [.ref 104]) (st' := st) (fun _ h => h) ?_
  refine w_step (pc' := 4) (ls' := [some (.ref 104)]) (sk' := [.ref 114]) (st' := st) rfl (fun K k => ⟨rfl, k⟩) ?_
  refine w_blk 2 (pc' := 6) (ls' := [some (.ref 104)]) (sk' := [.ref 104, .int (Int32.ofNat (lenK.getD 4 0))]) (st' := st) (fun _ h => h) ?_
  refine w_callV (As := [.ref 104]) (rest := [.int (Int32.ofNat (lenK.getD 4 0))]) rfl rfl rfl (Nat.le_of_ble_eq_true rfl) (Nat.le_of_ble_eq_true rfl) (by first | exact Or.inl ⟨rfl, rfl⟩ | exact Or.inr ⟨rfl, rfl⟩) (c_codr4 (d + 0) st) ?_
  refine w_blk 1 (pc' := 10) (ls' := [some (.ref 104)]) (sk' := [.int (nI 4)]) (st' := st) (fun _ h => h) ?_
  exact w_iret rfl rfl rfl hq
set_option maxRecDepth 20000 in
/-- charAt -/
theorem c_chr4 (d : Nat) (k : Nat) (st : mSt) (h : k < 4) : mMC mT (d + 4) 7 [.ref 104, .int (nI k)] st (some (.int (nI ((wdK 4).getD k 0)))) st := by
  refine mI_J0_charAt_5068e (d := d + 3) (Nat.le_of_ble_eq_true rfl) (fun Q hq => ?_)
  show mW (mMC mT (d + 3)) (0, fun _ => 0) (mAtL P_J0_charAt_5068e) (some .char) Q 0 [some (.ref 104), some (.int (nI k))] [] st
  refine w_blk 1 (pc' := 1) (ls' := [some (.ref 104), some (.int (nI k))]) (sk' := [.ref 104]) (st' := st) (fun _ h => h) ?_
  refine w_callV (As := [.ref 104]) (rest := []) rfl rfl rfl (Nat.le_of_ble_eq_true rfl) (Nat.le_of_ble_eq_true rfl) (by first | exact Or.inl ⟨rfl, rfl⟩ | exact Or.inr ⟨rfl, rfl⟩) (c_lat4 (d + 2) st) ?_
  refine w_if_eq rfl (fun hno => absurd hno (by decide)) (fun _ => ?_)
  refine w_blk 1 (pc' := 8) (ls' := [some (.ref 104), some (.int (nI k))]) (sk' := [.ref 104]) (st' := st) (fun _ h => h) ?_
  refine w_step (pc' := 11) (ls' := [some (.ref 104), some (.int (nI k))]) (sk' := [.ref 114]) (st' := st) rfl (fun K k => ⟨rfl, k⟩) ?_
  refine w_blk 1 (pc' := 12) (ls' := [some (.ref 104), some (.int (nI k))]) (sk' := [.int (nI k), .ref 114]) (st' := st) (fun _ h => h) ?_
  have hc := c_charA4 (d + 0) k st h
  refine w_callS (As := [.ref 114, .int (nI k)]) (rest := []) rfl rfl rfl (Nat.le_of_ble_eq_true rfl) (Nat.le_of_ble_eq_true rfl) hc ?_
  exact w_iret rfl rfl (chr_4 k h) hq
theorem w2 (f : Nat → Nat → Int32) {p q : Nat} (h : p ≠ q) (k j : Nat) (x y : Int32) : (j = k → mU (mU f p k x) q k y p j = x ∧ mU (mU f p k x) q k y q j = y) ∧ (j ≠ k → mU (mU f p k x) q k y p j = f p j ∧ mU (mU f p k x) q k y q j = f q j) := by
  refine ⟨fun e => ?_, fun e => ?_⟩
  · rw [e]
    exact ⟨two_a h, two_b⟩
  · exact ⟨two_c h e, two_d h.symm e⟩
theorem wdK_256 (j k : Nat) : (wdK j).getD k 0 < 256 := by
  rw [List.getD_eq_getElem?_getD]
  cases h : (wdK j)[k]? with
  | none => decide
  | some x =>
    have hm := List.mem_of_getElem? h
    show x < 256
    unfold wdK at hm
    split at hm <;> simp only [List.mem_cons, List.not_mem_nil, or_false] at hm <;> omega
set_option maxRecDepth 20000 in
/-- isWord 0 -/
theorem c_isWord0 (d : Nat) (L : Nat) (b : Nat → Nat) (i e : Nat) (st : mSt) (hP : XS st L b) (hb : ∀ j, j < L → b j < 256) (hL : L ≤ 300) (hie : i < e) (heL : e ≤ L) : mMC mT (d + 5) 76 [.ref 1, .ref 100, .int (nI i), .int (nI e)] st (some (.int (pI (isW b 0 i e = true)))) st := by
  refine mI_X7_isWord (d := d + 4) (Nat.le_of_ble_eq_true rfl) (fun Q hq => ?_)
  show mW (mMC mT (d + 4)) (0, fun _ => 0) (mAtL P_X7_isWord) (some .boolean) Q 0 [some (.ref 1), some (.ref 100), some (.int (nI i)), some (.int (nI e)), none] [] st
  refine w_blk 3 (pc' := 3) (ls' := [some (.ref 1), some (.ref 100), some (.int (nI i)), some (.int (nI e)), none]) (sk' := [.int ((nI e) - (nI i))]) (st' := st) (fun _ h => h) ?_
  rw [show ((nI e) - (nI i)) = nI (e - i) from pk_sub (a := e) (b := i) (by omega)]
  refine w_blk 1 (pc' := 4) (ls' := [some (.ref 1), some (.ref 100), some (.int (nI i)), some (.int (nI e)), none]) (sk' := [.ref 100, .int (nI (e - i))]) (st' := st) (fun _ h => h) ?_
  refine w_callV (As := [.ref 100]) (rest := [.int (nI (e - i))]) rfl rfl rfl (Nat.le_of_ble_eq_true rfl) (Nat.le_of_ble_eq_true rfl) (by first | exact Or.inl ⟨rfl, rfl⟩ | exact Or.inr ⟨rfl, rfl⟩) (c_slen0 (d + 2) st) ?_
  refine w_cmp_eq rfl (fun h1 => ?_) (fun h1 => ?_)
  · replace h1 : e - i = 6 := (nI_eq (a := (e - i)) (b := 6) (by omega) (by omega)).mp h1
    refine w_blk 2 (pc' := 15) (ls' := [some (.ref 1), some (.ref 100), some (.int (nI i)), some (.int (nI e)), some (.int 0)]) (sk' := []) (st' := st) (fun _ h => h) ?_
    suffices key : ∀ (m k : Nat), k + m = 6 → (∀ t, t < k → b (i + t) = (wdK 0).getD t 0) → mW (mMC mT (d + 4)) (0, fun _ => 0) (mAtL P_X7_isWord) (some .boolean) Q 15 [some (.ref 1), some (.ref 100), some (.int (nI i)), some (.int (nI e)), some (.int (nI k))] [] st from key 6 0 (by omega) (fun t ht => absurd ht (Nat.not_lt_zero _))
    intro m
    induction m with
    | zero =>
      intro k hk hz
      obtain rfl : k = 6 := by omega
      refine w_blk 2 (pc' := 18) (ls' := [some (.ref 1), some (.ref 100), some (.int (nI i)), some (.int (nI e)), some (.int (nI 6))]) (sk' := [.ref 100, .int (nI 6)]) (st' := st) (fun _ h => h) ?_
      refine w_callV (As := [.ref 100]) (rest := [.int (nI 6)]) rfl rfl rfl (Nat.le_of_ble_eq_true rfl) (Nat.le_of_ble_eq_true rfl) (by first | exact Or.inl ⟨rfl, rfl⟩ | exact Or.inr ⟨rfl, rfl⟩) (c_slen0 (d + 2) st) ?_
      refine w_cmp_ge rfl (fun _ => ?_) (fun hno => absurd (Int32.le_refl _) hno)
      refine w_blk 1 (pc' := 53) (ls' := [some (.ref 1), some (.ref 100), some (.int (nI i)), some (.int (nI e)), some (.int (nI 6))]) (sk' := [.int 1]) (st' := st) (fun _ h => h) ?_
      rw [pI_t (show isW b 0 i e = true from isW_i.mpr ⟨h1, hz⟩)] at hq
      exact w_iret rfl rfl rfl hq
    | succ m ih =>
      intro k hk hz
      have hk2 : k < 6 := by omega
      have hbk := hb (i + k) (by omega)
      have hwk := wdK_256 0 k
      refine w_blk 2 (pc' := 18) (ls' := [some (.ref 1), some (.ref 100), some (.int (nI i)), some (.int (nI e)), some (.int (nI k))]) (sk' := [.ref 100, .int (nI k)]) (st' := st) (fun _ h => h) ?_
      refine w_callV (As := [.ref 100]) (rest := [.int (nI k)]) rfl rfl rfl (Nat.le_of_ble_eq_true rfl) (Nat.le_of_ble_eq_true rfl) (by first | exact Or.inl ⟨rfl, rfl⟩ | exact Or.inr ⟨rfl, rfl⟩) (c_slen0 (d + 2) st) ?_
      refine w_cmp_ge rfl (fun hno => absurd hno (nI_ge hk2 (by omega))) (fun _ => ?_)
      refine w_blk 5 (pc' := 32) (ls' := [some (.ref 1), some (.ref 100), some (.int (nI i)), some (.int (nI e)), some (.int (nI k))]) (sk' := [.int ((nI i) + (nI k)), .ref 2]) (st' := st) (fun _ h => h) ?_
      rw [show ((nI i) + (nI k)) = nI (i + k) from nI_add i k]
      refine w_callS (As := [.ref 2, .int (nI (i + k))]) (rest := []) rfl rfl rfl (Nat.le_of_ble_eq_true rfl) (Nat.le_of_ble_eq_true rfl) (c_cellK (d + 3) 2 300 (i + k) st (by omega) (by decide) rfl) ?_
      rw [hP.2 (i + k) (by omega)]
      refine w_blk 2 (pc' := 38) (ls' := [some (.ref 1), some (.ref 100), some (.int (nI i)), some (.int (nI e)), some (.int (nI k))]) (sk' := [.int (nI k), .ref 100, .int (nI (b (i + k)))]) (st' := st) (fun _ h => h) ?_
      refine w_callV (As := [.ref 100, .int (nI k)]) (rest := [.int (nI (b (i + k)))]) rfl rfl rfl (Nat.le_of_ble_eq_true rfl) (Nat.le_of_ble_eq_true rfl) (by first | exact Or.inl ⟨rfl, rfl⟩ | exact Or.inr ⟨rfl, rfl⟩) (c_chr0 (d + 0) k st hk2) ?_
      refine w_cmp_eq rfl (fun h2 => ?_) (fun h2 => ?_)
      · replace h2 : b (i + k) = (wdK 0).getD k 0 := (nI_eq (a := (b (i + k))) (b := ((wdK 0).getD k 0)) (by omega) (by omega)).mp h2
        refine w_blk 1 (pc' := 49) (ls' := [some (.ref 1), some (.ref 100), some (.int (nI i)), some (.int (nI e)), some (.int ((nI k) + 1))]) (sk' := []) (st' := st) (fun _ h => h) ?_
        rw [show ((nI k) + 1) = nI (k + 1) from nI_add k 1]
        refine w_blk 1 (pc' := 15) (ls' := [some (.ref 1), some (.ref 100), some (.int (nI i)), some (.int (nI e)), some (.int (nI (k + 1)))]) (sk' := []) (st' := st) (fun _ h => h) ?_
        exact ih (k + 1) (by omega) (fun t ht => if et : t = k then (by rw [et]; exact h2) else hz t (by omega))
      · replace h2 : ¬ (b (i + k) = (wdK 0).getD k 0) := fun hh => h2 ((nI_eq (a := (b (i + k))) (b := ((wdK 0).getD k 0)) (by omega) (by omega)).mpr hh)
        refine w_blk 1 (pc' := 45) (ls' := [some (.ref 1), some (.ref 100), some (.int (nI i)), some (.int (nI e)), some (.int (nI k))]) (sk' := [.int 0]) (st' := st) (fun _ h => h) ?_
        rw [pI_f (fun e9 => h2 ((isW_i.mp e9).2 k hk2))] at hq
        exact w_iret rfl rfl rfl hq
  · replace h1 : ¬ (e - i = 6) := fun hh => h1 ((nI_eq (a := (e - i)) (b := 6) (by omega) (by omega)).mpr hh)
    refine w_blk 1 (pc' := 11) (ls' := [some (.ref 1), some (.ref 100), some (.int (nI i)), some (.int (nI e)), none]) (sk' := [.int 0]) (st' := st) (fun _ h => h) ?_
    rw [pI_f (fun e9 => h1 (isW_i.mp e9).1)] at hq
    exact w_iret rfl rfl rfl hq
set_option maxRecDepth 20000 in
/-- isWord 1 -/
theorem c_isWord1 (d : Nat) (L : Nat) (b : Nat → Nat) (i e : Nat) (st : mSt) (hP : XS st L b) (hb : ∀ j, j < L → b j < 256) (hL : L ≤ 300) (hie : i < e) (heL : e ≤ L) : mMC mT (d + 5) 76 [.ref 1, .ref 101, .int (nI i), .int (nI e)] st (some (.int (pI (isW b 1 i e = true)))) st := by
  refine mI_X7_isWord (d := d + 4) (Nat.le_of_ble_eq_true rfl) (fun Q hq => ?_)
  show mW (mMC mT (d + 4)) (0, fun _ => 0) (mAtL P_X7_isWord) (some .boolean) Q 0 [some (.ref 1), some (.ref 101), some (.int (nI i)), some (.int (nI e)), none] [] st
  refine w_blk 3 (pc' := 3) (ls' := [some (.ref 1), some (.ref 101), some (.int (nI i)), some (.int (nI e)), none]) (sk' := [.int ((nI e) - (nI i))]) (st' := st) (fun _ h => h) ?_
  rw [show ((nI e) - (nI i)) = nI (e - i) from pk_sub (a := e) (b := i) (by omega)]
  refine w_blk 1 (pc' := 4) (ls' := [some (.ref 1), some (.ref 101), some (.int (nI i)), some (.int (nI e)), none]) (sk' := [.ref 101, .int (nI (e - i))]) (st' := st) (fun _ h => h) ?_
  refine w_callV (As := [.ref 101]) (rest := [.int (nI (e - i))]) rfl rfl rfl (Nat.le_of_ble_eq_true rfl) (Nat.le_of_ble_eq_true rfl) (by first | exact Or.inl ⟨rfl, rfl⟩ | exact Or.inr ⟨rfl, rfl⟩) (c_slen1 (d + 2) st) ?_
  refine w_cmp_eq rfl (fun h1 => ?_) (fun h1 => ?_)
  · replace h1 : e - i = 5 := (nI_eq (a := (e - i)) (b := 5) (by omega) (by omega)).mp h1
    refine w_blk 2 (pc' := 15) (ls' := [some (.ref 1), some (.ref 101), some (.int (nI i)), some (.int (nI e)), some (.int 0)]) (sk' := []) (st' := st) (fun _ h => h) ?_
    suffices key : ∀ (m k : Nat), k + m = 5 → (∀ t, t < k → b (i + t) = (wdK 1).getD t 0) → mW (mMC mT (d + 4)) (0, fun _ => 0) (mAtL P_X7_isWord) (some .boolean) Q 15 [some (.ref 1), some (.ref 101), some (.int (nI i)), some (.int (nI e)), some (.int (nI k))] [] st from key 5 0 (by omega) (fun t ht => absurd ht (Nat.not_lt_zero _))
    intro m
    induction m with
    | zero =>
      intro k hk hz
      obtain rfl : k = 5 := by omega
      refine w_blk 2 (pc' := 18) (ls' := [some (.ref 1), some (.ref 101), some (.int (nI i)), some (.int (nI e)), some (.int (nI 5))]) (sk' := [.ref 101, .int (nI 5)]) (st' := st) (fun _ h => h) ?_
      refine w_callV (As := [.ref 101]) (rest := [.int (nI 5)]) rfl rfl rfl (Nat.le_of_ble_eq_true rfl) (Nat.le_of_ble_eq_true rfl) (by first | exact Or.inl ⟨rfl, rfl⟩ | exact Or.inr ⟨rfl, rfl⟩) (c_slen1 (d + 2) st) ?_
      refine w_cmp_ge rfl (fun _ => ?_) (fun hno => absurd (Int32.le_refl _) hno)
      refine w_blk 1 (pc' := 53) (ls' := [some (.ref 1), some (.ref 101), some (.int (nI i)), some (.int (nI e)), some (.int (nI 5))]) (sk' := [.int 1]) (st' := st) (fun _ h => h) ?_
      rw [pI_t (show isW b 1 i e = true from isW_i.mpr ⟨h1, hz⟩)] at hq
      exact w_iret rfl rfl rfl hq
    | succ m ih =>
      intro k hk hz
      have hk2 : k < 5 := by omega
      have hbk := hb (i + k) (by omega)
      have hwk := wdK_256 1 k
      refine w_blk 2 (pc' := 18) (ls' := [some (.ref 1), some (.ref 101), some (.int (nI i)), some (.int (nI e)), some (.int (nI k))]) (sk' := [.ref 101, .int (nI k)]) (st' := st) (fun _ h => h) ?_
      refine w_callV (As := [.ref 101]) (rest := [.int (nI k)]) rfl rfl rfl (Nat.le_of_ble_eq_true rfl) (Nat.le_of_ble_eq_true rfl) (by first | exact Or.inl ⟨rfl, rfl⟩ | exact Or.inr ⟨rfl, rfl⟩) (c_slen1 (d + 2) st) ?_
      refine w_cmp_ge rfl (fun hno => absurd hno (nI_ge hk2 (by omega))) (fun _ => ?_)
      refine w_blk 5 (pc' := 32) (ls' := [some (.ref 1), some (.ref 101), some (.int (nI i)), some (.int (nI e)), some (.int (nI k))]) (sk' := [.int ((nI i) + (nI k)), .ref 2]) (st' := st) (fun _ h => h) ?_
      rw [show ((nI i) + (nI k)) = nI (i + k) from nI_add i k]
      refine w_callS (As := [.ref 2, .int (nI (i + k))]) (rest := []) rfl rfl rfl (Nat.le_of_ble_eq_true rfl) (Nat.le_of_ble_eq_true rfl) (c_cellK (d + 3) 2 300 (i + k) st (by omega) (by decide) rfl) ?_
      rw [hP.2 (i + k) (by omega)]
      refine w_blk 2 (pc' := 38) (ls' := [some (.ref 1), some (.ref 101), some (.int (nI i)), some (.int (nI e)), some (.int (nI k))]) (sk' := [.int (nI k), .ref 101, .int (nI (b (i + k)))]) (st' := st) (fun _ h => h) ?_
      refine w_callV (As := [.ref 101, .int (nI k)]) (rest := [.int (nI (b (i + k)))]) rfl rfl rfl (Nat.le_of_ble_eq_true rfl) (Nat.le_of_ble_eq_true rfl) (by first | exact Or.inl ⟨rfl, rfl⟩ | exact Or.inr ⟨rfl, rfl⟩) (c_chr1 (d + 0) k st hk2) ?_
      refine w_cmp_eq rfl (fun h2 => ?_) (fun h2 => ?_)
      · replace h2 : b (i + k) = (wdK 1).getD k 0 := (nI_eq (a := (b (i + k))) (b := ((wdK 1).getD k 0)) (by omega) (by omega)).mp h2
        refine w_blk 1 (pc' := 49) (ls' := [some (.ref 1), some (.ref 101), some (.int (nI i)), some (.int (nI e)), some (.int ((nI k) + 1))]) (sk' := []) (st' := st) (fun _ h => h) ?_
        rw [show ((nI k) + 1) = nI (k + 1) from nI_add k 1]
        refine w_blk 1 (pc' := 15) (ls' := [some (.ref 1), some (.ref 101), some (.int (nI i)), some (.int (nI e)), some (.int (nI (k + 1)))]) (sk' := []) (st' := st) (fun _ h => h) ?_
        exact ih (k + 1) (by omega) (fun t ht => if et : t = k then (by rw [et]; exact h2) else hz t (by omega))
      · replace h2 : ¬ (b (i + k) = (wdK 1).getD k 0) := fun hh => h2 ((nI_eq (a := (b (i + k))) (b := ((wdK 1).getD k 0)) (by omega) (by omega)).mpr hh)
        refine w_blk 1 (pc' := 45) (ls' := [some (.ref 1), some (.ref 101), some (.int (nI i)), some (.int (nI e)), some (.int (nI k))]) (sk' := [.int 0]) (st' := st) (fun _ h => h) ?_
        rw [pI_f (fun e9 => h2 ((isW_i.mp e9).2 k hk2))] at hq
        exact w_iret rfl rfl rfl hq
  · replace h1 : ¬ (e - i = 5) := fun hh => h1 ((nI_eq (a := (e - i)) (b := 5) (by omega) (by omega)).mpr hh)
    refine w_blk 1 (pc' := 11) (ls' := [some (.ref 1), some (.ref 101), some (.int (nI i)), some (.int (nI e)), none]) (sk' := [.int 0]) (st' := st) (fun _ h => h) ?_
    rw [pI_f (fun e9 => h1 (isW_i.mp e9).1)] at hq
    exact w_iret rfl rfl rfl hq
set_option maxRecDepth 20000 in
/-- isWord 2 -/
theorem c_isWord2 (d : Nat) (L : Nat) (b : Nat → Nat) (i e : Nat) (st : mSt) (hP : XS st L b) (hb : ∀ j, j < L → b j < 256) (hL : L ≤ 300) (hie : i < e) (heL : e ≤ L) : mMC mT (d + 5) 76 [.ref 1, .ref 102, .int (nI i), .int (nI e)] st (some (.int (pI (isW b 2 i e = true)))) st := by
  refine mI_X7_isWord (d := d + 4) (Nat.le_of_ble_eq_true rfl) (fun Q hq => ?_)
  show mW (mMC mT (d + 4)) (0, fun _ => 0) (mAtL P_X7_isWord) (some .boolean) Q 0 [some (.ref 1), some (.ref 102), some (.int (nI i)), some (.int (nI e)), none] [] st
  refine w_blk 3 (pc' := 3) (ls' := [some (.ref 1), some (.ref 102), some (.int (nI i)), some (.int (nI e)), none]) (sk' := [.int ((nI e) - (nI i))]) (st' := st) (fun _ h => h) ?_
  rw [show ((nI e) - (nI i)) = nI (e - i) from pk_sub (a := e) (b := i) (by omega)]
  refine w_blk 1 (pc' := 4) (ls' := [some (.ref 1), some (.ref 102), some (.int (nI i)), some (.int (nI e)), none]) (sk' := [.ref 102, .int (nI (e - i))]) (st' := st) (fun _ h => h) ?_
  refine w_callV (As := [.ref 102]) (rest := [.int (nI (e - i))]) rfl rfl rfl (Nat.le_of_ble_eq_true rfl) (Nat.le_of_ble_eq_true rfl) (by first | exact Or.inl ⟨rfl, rfl⟩ | exact Or.inr ⟨rfl, rfl⟩) (c_slen2 (d + 2) st) ?_
  refine w_cmp_eq rfl (fun h1 => ?_) (fun h1 => ?_)
  · replace h1 : e - i = 4 := (nI_eq (a := (e - i)) (b := 4) (by omega) (by omega)).mp h1
    refine w_blk 2 (pc' := 15) (ls' := [some (.ref 1), some (.ref 102), some (.int (nI i)), some (.int (nI e)), some (.int 0)]) (sk' := []) (st' := st) (fun _ h => h) ?_
    suffices key : ∀ (m k : Nat), k + m = 4 → (∀ t, t < k → b (i + t) = (wdK 2).getD t 0) → mW (mMC mT (d + 4)) (0, fun _ => 0) (mAtL P_X7_isWord) (some .boolean) Q 15 [some (.ref 1), some (.ref 102), some (.int (nI i)), some (.int (nI e)), some (.int (nI k))] [] st from key 4 0 (by omega) (fun t ht => absurd ht (Nat.not_lt_zero _))
    intro m
    induction m with
    | zero =>
      intro k hk hz
      obtain rfl : k = 4 := by omega
      refine w_blk 2 (pc' := 18) (ls' := [some (.ref 1), some (.ref 102), some (.int (nI i)), some (.int (nI e)), some (.int (nI 4))]) (sk' := [.ref 102, .int (nI 4)]) (st' := st) (fun _ h => h) ?_
      refine w_callV (As := [.ref 102]) (rest := [.int (nI 4)]) rfl rfl rfl (Nat.le_of_ble_eq_true rfl) (Nat.le_of_ble_eq_true rfl) (by first | exact Or.inl ⟨rfl, rfl⟩ | exact Or.inr ⟨rfl, rfl⟩) (c_slen2 (d + 2) st) ?_
      refine w_cmp_ge rfl (fun _ => ?_) (fun hno => absurd (Int32.le_refl _) hno)
      refine w_blk 1 (pc' := 53) (ls' := [some (.ref 1), some (.ref 102), some (.int (nI i)), some (.int (nI e)), some (.int (nI 4))]) (sk' := [.int 1]) (st' := st) (fun _ h => h) ?_
      rw [pI_t (show isW b 2 i e = true from isW_i.mpr ⟨h1, hz⟩)] at hq
      exact w_iret rfl rfl rfl hq
    | succ m ih =>
      intro k hk hz
      have hk2 : k < 4 := by omega
      have hbk := hb (i + k) (by omega)
      have hwk := wdK_256 2 k
      refine w_blk 2 (pc' := 18) (ls' := [some (.ref 1), some (.ref 102), some (.int (nI i)), some (.int (nI e)), some (.int (nI k))]) (sk' := [.ref 102, .int (nI k)]) (st' := st) (fun _ h => h) ?_
      refine w_callV (As := [.ref 102]) (rest := [.int (nI k)]) rfl rfl rfl (Nat.le_of_ble_eq_true rfl) (Nat.le_of_ble_eq_true rfl) (by first | exact Or.inl ⟨rfl, rfl⟩ | exact Or.inr ⟨rfl, rfl⟩) (c_slen2 (d + 2) st) ?_
      refine w_cmp_ge rfl (fun hno => absurd hno (nI_ge hk2 (by omega))) (fun _ => ?_)
      refine w_blk 5 (pc' := 32) (ls' := [some (.ref 1), some (.ref 102), some (.int (nI i)), some (.int (nI e)), some (.int (nI k))]) (sk' := [.int ((nI i) + (nI k)), .ref 2]) (st' := st) (fun _ h => h) ?_
      rw [show ((nI i) + (nI k)) = nI (i + k) from nI_add i k]
      refine w_callS (As := [.ref 2, .int (nI (i + k))]) (rest := []) rfl rfl rfl (Nat.le_of_ble_eq_true rfl) (Nat.le_of_ble_eq_true rfl) (c_cellK (d + 3) 2 300 (i + k) st (by omega) (by decide) rfl) ?_
      rw [hP.2 (i + k) (by omega)]
      refine w_blk 2 (pc' := 38) (ls' := [some (.ref 1), some (.ref 102), some (.int (nI i)), some (.int (nI e)), some (.int (nI k))]) (sk' := [.int (nI k), .ref 102, .int (nI (b (i + k)))]) (st' := st) (fun _ h => h) ?_
      refine w_callV (As := [.ref 102, .int (nI k)]) (rest := [.int (nI (b (i + k)))]) rfl rfl rfl (Nat.le_of_ble_eq_true rfl) (Nat.le_of_ble_eq_true rfl) (by first | exact Or.inl ⟨rfl, rfl⟩ | exact Or.inr ⟨rfl, rfl⟩) (c_chr2 (d + 0) k st hk2) ?_
      refine w_cmp_eq rfl (fun h2 => ?_) (fun h2 => ?_)
      · replace h2 : b (i + k) = (wdK 2).getD k 0 := (nI_eq (a := (b (i + k))) (b := ((wdK 2).getD k 0)) (by omega) (by omega)).mp h2
        refine w_blk 1 (pc' := 49) (ls' := [some (.ref 1), some (.ref 102), some (.int (nI i)), some (.int (nI e)), some (.int ((nI k) + 1))]) (sk' := []) (st' := st) (fun _ h => h) ?_
        rw [show ((nI k) + 1) = nI (k + 1) from nI_add k 1]
        refine w_blk 1 (pc' := 15) (ls' := [some (.ref 1), some (.ref 102), some (.int (nI i)), some (.int (nI e)), some (.int (nI (k + 1)))]) (sk' := []) (st' := st) (fun _ h => h) ?_
        exact ih (k + 1) (by omega) (fun t ht => if et : t = k then (by rw [et]; exact h2) else hz t (by omega))
      · replace h2 : ¬ (b (i + k) = (wdK 2).getD k 0) := fun hh => h2 ((nI_eq (a := (b (i + k))) (b := ((wdK 2).getD k 0)) (by omega) (by omega)).mpr hh)
        refine w_blk 1 (pc' := 45) (ls' := [some (.ref 1), some (.ref 102), some (.int (nI i)), some (.int (nI e)), some (.int (nI k))]) (sk' := [.int 0]) (st' := st) (fun _ h => h) ?_
        rw [pI_f (fun e9 => h2 ((isW_i.mp e9).2 k hk2))] at hq
        exact w_iret rfl rfl rfl hq
  · replace h1 : ¬ (e - i = 4) := fun hh => h1 ((nI_eq (a := (e - i)) (b := 4) (by omega) (by omega)).mpr hh)
    refine w_blk 1 (pc' := 11) (ls' := [some (.ref 1), some (.ref 102), some (.int (nI i)), some (.int (nI e)), none]) (sk' := [.int 0]) (st' := st) (fun _ h => h) ?_
    rw [pI_f (fun e9 => h1 (isW_i.mp e9).1)] at hq
    exact w_iret rfl rfl rfl hq
set_option maxRecDepth 20000 in
/-- isWord 3 -/
theorem c_isWord3 (d : Nat) (L : Nat) (b : Nat → Nat) (i e : Nat) (st : mSt) (hP : XS st L b) (hb : ∀ j, j < L → b j < 256) (hL : L ≤ 300) (hie : i < e) (heL : e ≤ L) : mMC mT (d + 5) 76 [.ref 1, .ref 103, .int (nI i), .int (nI e)] st (some (.int (pI (isW b 3 i e = true)))) st := by
  refine mI_X7_isWord (d := d + 4) (Nat.le_of_ble_eq_true rfl) (fun Q hq => ?_)
  show mW (mMC mT (d + 4)) (0, fun _ => 0) (mAtL P_X7_isWord) (some .boolean) Q 0 [some (.ref 1), some (.ref 103), some (.int (nI i)), some (.int (nI e)), none] [] st
  refine w_blk 3 (pc' := 3) (ls' := [some (.ref 1), some (.ref 103), some (.int (nI i)), some (.int (nI e)), none]) (sk' := [.int ((nI e) - (nI i))]) (st' := st) (fun _ h => h) ?_
  rw [show ((nI e) - (nI i)) = nI (e - i) from pk_sub (a := e) (b := i) (by omega)]
  refine w_blk 1 (pc' := 4) (ls' := [some (.ref 1), some (.ref 103), some (.int (nI i)), some (.int (nI e)), none]) (sk' := [.ref 103, .int (nI (e - i))]) (st' := st) (fun _ h => h) ?_
  refine w_callV (As := [.ref 103]) (rest := [.int (nI (e - i))]) rfl rfl rfl (Nat.le_of_ble_eq_true rfl) (Nat.le_of_ble_eq_true rfl) (by first | exact Or.inl ⟨rfl, rfl⟩ | exact Or.inr ⟨rfl, rfl⟩) (c_slen3 (d + 2) st) ?_
  refine w_cmp_eq rfl (fun h1 => ?_) (fun h1 => ?_)
  · replace h1 : e - i = 5 := (nI_eq (a := (e - i)) (b := 5) (by omega) (by omega)).mp h1
    refine w_blk 2 (pc' := 15) (ls' := [some (.ref 1), some (.ref 103), some (.int (nI i)), some (.int (nI e)), some (.int 0)]) (sk' := []) (st' := st) (fun _ h => h) ?_
    suffices key : ∀ (m k : Nat), k + m = 5 → (∀ t, t < k → b (i + t) = (wdK 3).getD t 0) → mW (mMC mT (d + 4)) (0, fun _ => 0) (mAtL P_X7_isWord) (some .boolean) Q 15 [some (.ref 1), some (.ref 103), some (.int (nI i)), some (.int (nI e)), some (.int (nI k))] [] st from key 5 0 (by omega) (fun t ht => absurd ht (Nat.not_lt_zero _))
    intro m
    induction m with
    | zero =>
      intro k hk hz
      obtain rfl : k = 5 := by omega
      refine w_blk 2 (pc' := 18) (ls' := [some (.ref 1), some (.ref 103), some (.int (nI i)), some (.int (nI e)), some (.int (nI 5))]) (sk' := [.ref 103, .int (nI 5)]) (st' := st) (fun _ h => h) ?_
      refine w_callV (As := [.ref 103]) (rest := [.int (nI 5)]) rfl rfl rfl (Nat.le_of_ble_eq_true rfl) (Nat.le_of_ble_eq_true rfl) (by first | exact Or.inl ⟨rfl, rfl⟩ | exact Or.inr ⟨rfl, rfl⟩) (c_slen3 (d + 2) st) ?_
      refine w_cmp_ge rfl (fun _ => ?_) (fun hno => absurd (Int32.le_refl _) hno)
      refine w_blk 1 (pc' := 53) (ls' := [some (.ref 1), some (.ref 103), some (.int (nI i)), some (.int (nI e)), some (.int (nI 5))]) (sk' := [.int 1]) (st' := st) (fun _ h => h) ?_
      rw [pI_t (show isW b 3 i e = true from isW_i.mpr ⟨h1, hz⟩)] at hq
      exact w_iret rfl rfl rfl hq
    | succ m ih =>
      intro k hk hz
      have hk2 : k < 5 := by omega
      have hbk := hb (i + k) (by omega)
      have hwk := wdK_256 3 k
      refine w_blk 2 (pc' := 18) (ls' := [some (.ref 1), some (.ref 103), some (.int (nI i)), some (.int (nI e)), some (.int (nI k))]) (sk' := [.ref 103, .int (nI k)]) (st' := st) (fun _ h => h) ?_
      refine w_callV (As := [.ref 103]) (rest := [.int (nI k)]) rfl rfl rfl (Nat.le_of_ble_eq_true rfl) (Nat.le_of_ble_eq_true rfl) (by first | exact Or.inl ⟨rfl, rfl⟩ | exact Or.inr ⟨rfl, rfl⟩) (c_slen3 (d + 2) st) ?_
      refine w_cmp_ge rfl (fun hno => absurd hno (nI_ge hk2 (by omega))) (fun _ => ?_)
      refine w_blk 5 (pc' := 32) (ls' := [some (.ref 1), some (.ref 103), some (.int (nI i)), some (.int (nI e)), some (.int (nI k))]) (sk' := [.int ((nI i) + (nI k)), .ref 2]) (st' := st) (fun _ h => h) ?_
      rw [show ((nI i) + (nI k)) = nI (i + k) from nI_add i k]
      refine w_callS (As := [.ref 2, .int (nI (i + k))]) (rest := []) rfl rfl rfl (Nat.le_of_ble_eq_true rfl) (Nat.le_of_ble_eq_true rfl) (c_cellK (d + 3) 2 300 (i + k) st (by omega) (by decide) rfl) ?_
      rw [hP.2 (i + k) (by omega)]
      refine w_blk 2 (pc' := 38) (ls' := [some (.ref 1), some (.ref 103), some (.int (nI i)), some (.int (nI e)), some (.int (nI k))]) (sk' := [.int (nI k), .ref 103, .int (nI (b (i + k)))]) (st' := st) (fun _ h => h) ?_
      refine w_callV (As := [.ref 103, .int (nI k)]) (rest := [.int (nI (b (i + k)))]) rfl rfl rfl (Nat.le_of_ble_eq_true rfl) (Nat.le_of_ble_eq_true rfl) (by first | exact Or.inl ⟨rfl, rfl⟩ | exact Or.inr ⟨rfl, rfl⟩) (c_chr3 (d + 0) k st hk2) ?_
      refine w_cmp_eq rfl (fun h2 => ?_) (fun h2 => ?_)
      · replace h2 : b (i + k) = (wdK 3).getD k 0 := (nI_eq (a := (b (i + k))) (b := ((wdK 3).getD k 0)) (by omega) (by omega)).mp h2
        refine w_blk 1 (pc' := 49) (ls' := [some (.ref 1), some (.ref 103), some (.int (nI i)), some (.int (nI e)), some (.int ((nI k) + 1))]) (sk' := []) (st' := st) (fun _ h => h) ?_
        rw [show ((nI k) + 1) = nI (k + 1) from nI_add k 1]
        refine w_blk 1 (pc' := 15) (ls' := [some (.ref 1), some (.ref 103), some (.int (nI i)), some (.int (nI e)), some (.int (nI (k + 1)))]) (sk' := []) (st' := st) (fun _ h => h) ?_
        exact ih (k + 1) (by omega) (fun t ht => if et : t = k then (by rw [et]; exact h2) else hz t (by omega))
      · replace h2 : ¬ (b (i + k) = (wdK 3).getD k 0) := fun hh => h2 ((nI_eq (a := (b (i + k))) (b := ((wdK 3).getD k 0)) (by omega) (by omega)).mpr hh)
        refine w_blk 1 (pc' := 45) (ls' := [some (.ref 1), some (.ref 103), some (.int (nI i)), some (.int (nI e)), some (.int (nI k))]) (sk' := [.int 0]) (st' := st) (fun _ h => h) ?_
        rw [pI_f (fun e9 => h2 ((isW_i.mp e9).2 k hk2))] at hq
        exact w_iret rfl rfl rfl hq
  · replace h1 : ¬ (e - i = 5) := fun hh => h1 ((nI_eq (a := (e - i)) (b := 5) (by omega) (by omega)).mpr hh)
    refine w_blk 1 (pc' := 11) (ls' := [some (.ref 1), some (.ref 103), some (.int (nI i)), some (.int (nI e)), none]) (sk' := [.int 0]) (st' := st) (fun _ h => h) ?_
    rw [pI_f (fun e9 => h1 (isW_i.mp e9).1)] at hq
    exact w_iret rfl rfl rfl hq
set_option maxRecDepth 20000 in
/-- isWord 4 -/
theorem c_isWord4 (d : Nat) (L : Nat) (b : Nat → Nat) (i e : Nat) (st : mSt) (hP : XS st L b) (hb : ∀ j, j < L → b j < 256) (hL : L ≤ 300) (hie : i < e) (heL : e ≤ L) : mMC mT (d + 5) 76 [.ref 1, .ref 104, .int (nI i), .int (nI e)] st (some (.int (pI (isW b 4 i e = true)))) st := by
  refine mI_X7_isWord (d := d + 4) (Nat.le_of_ble_eq_true rfl) (fun Q hq => ?_)
  show mW (mMC mT (d + 4)) (0, fun _ => 0) (mAtL P_X7_isWord) (some .boolean) Q 0 [some (.ref 1), some (.ref 104), some (.int (nI i)), some (.int (nI e)), none] [] st
  refine w_blk 3 (pc' := 3) (ls' := [some (.ref 1), some (.ref 104), some (.int (nI i)), some (.int (nI e)), none]) (sk' := [.int ((nI e) - (nI i))]) (st' := st) (fun _ h => h) ?_
  rw [show ((nI e) - (nI i)) = nI (e - i) from pk_sub (a := e) (b := i) (by omega)]
  refine w_blk 1 (pc' := 4) (ls' := [some (.ref 1), some (.ref 104), some (.int (nI i)), some (.int (nI e)), none]) (sk' := [.ref 104, .int (nI (e - i))]) (st' := st) (fun _ h => h) ?_
  refine w_callV (As := [.ref 104]) (rest := [.int (nI (e - i))]) rfl rfl rfl (Nat.le_of_ble_eq_true rfl) (Nat.le_of_ble_eq_true rfl) (by first | exact Or.inl ⟨rfl, rfl⟩ | exact Or.inr ⟨rfl, rfl⟩) (c_slen4 (d + 2) st) ?_
  refine w_cmp_eq rfl (fun h1 => ?_) (fun h1 => ?_)
  · replace h1 : e - i = 4 := (nI_eq (a := (e - i)) (b := 4) (by omega) (by omega)).mp h1
    refine w_blk 2 (pc' := 15) (ls' := [some (.ref 1), some (.ref 104), some (.int (nI i)), some (.int (nI e)), some (.int 0)]) (sk' := []) (st' := st) (fun _ h => h) ?_
    suffices key : ∀ (m k : Nat), k + m = 4 → (∀ t, t < k → b (i + t) = (wdK 4).getD t 0) → mW (mMC mT (d + 4)) (0, fun _ => 0) (mAtL P_X7_isWord) (some .boolean) Q 15 [some (.ref 1), some (.ref 104), some (.int (nI i)), some (.int (nI e)), some (.int (nI k))] [] st from key 4 0 (by omega) (fun t ht => absurd ht (Nat.not_lt_zero _))
    intro m
    induction m with
    | zero =>
      intro k hk hz
      obtain rfl : k = 4 := by omega
      refine w_blk 2 (pc' := 18) (ls' := [some (.ref 1), some (.ref 104), some (.int (nI i)), some (.int (nI e)), some (.int (nI 4))]) (sk' := [.ref 104, .int (nI 4)]) (st' := st) (fun _ h => h) ?_
      refine w_callV (As := [.ref 104]) (rest := [.int (nI 4)]) rfl rfl rfl (Nat.le_of_ble_eq_true rfl) (Nat.le_of_ble_eq_true rfl) (by first | exact Or.inl ⟨rfl, rfl⟩ | exact Or.inr ⟨rfl, rfl⟩) (c_slen4 (d + 2) st) ?_
      refine w_cmp_ge rfl (fun _ => ?_) (fun hno => absurd (Int32.le_refl _) hno)
      refine w_blk 1 (pc' := 53) (ls' := [some (.ref 1), some (.ref 104), some (.int (nI i)), some (.int (nI e)), some (.int (nI 4))]) (sk' := [.int 1]) (st' := st) (fun _ h => h) ?_
      rw [pI_t (show isW b 4 i e = true from isW_i.mpr ⟨h1, hz⟩)] at hq
      exact w_iret rfl rfl rfl hq
    | succ m ih =>
      intro k hk hz
      have hk2 : k < 4 := by omega
      have hbk := hb (i + k) (by omega)
      have hwk := wdK_256 4 k
      refine w_blk 2 (pc' := 18) (ls' := [some (.ref 1), some (.ref 104), some (.int (nI i)), some (.int (nI e)), some (.int (nI k))]) (sk' := [.ref 104, .int (nI k)]) (st' := st) (fun _ h => h) ?_
      refine w_callV (As := [.ref 104]) (rest := [.int (nI k)]) rfl rfl rfl (Nat.le_of_ble_eq_true rfl) (Nat.le_of_ble_eq_true rfl) (by first | exact Or.inl ⟨rfl, rfl⟩ | exact Or.inr ⟨rfl, rfl⟩) (c_slen4 (d + 2) st) ?_
      refine w_cmp_ge rfl (fun hno => absurd hno (nI_ge hk2 (by omega))) (fun _ => ?_)
      refine w_blk 5 (pc' := 32) (ls' := [some (.ref 1), some (.ref 104), some (.int (nI i)), some (.int (nI e)), some (.int (nI k))]) (sk' := [.int ((nI i) + (nI k)), .ref 2]) (st' := st) (fun _ h => h) ?_
      rw [show ((nI i) + (nI k)) = nI (i + k) from nI_add i k]
      refine w_callS (As := [.ref 2, .int (nI (i + k))]) (rest := []) rfl rfl rfl (Nat.le_of_ble_eq_true rfl) (Nat.le_of_ble_eq_true rfl) (c_cellK (d + 3) 2 300 (i + k) st (by omega) (by decide) rfl) ?_
      rw [hP.2 (i + k) (by omega)]
      refine w_blk 2 (pc' := 38) (ls' := [some (.ref 1), some (.ref 104), some (.int (nI i)), some (.int (nI e)), some (.int (nI k))]) (sk' := [.int (nI k), .ref 104, .int (nI (b (i + k)))]) (st' := st) (fun _ h => h) ?_
      refine w_callV (As := [.ref 104, .int (nI k)]) (rest := [.int (nI (b (i + k)))]) rfl rfl rfl (Nat.le_of_ble_eq_true rfl) (Nat.le_of_ble_eq_true rfl) (by first | exact Or.inl ⟨rfl, rfl⟩ | exact Or.inr ⟨rfl, rfl⟩) (c_chr4 (d + 0) k st hk2) ?_
      refine w_cmp_eq rfl (fun h2 => ?_) (fun h2 => ?_)
      · replace h2 : b (i + k) = (wdK 4).getD k 0 := (nI_eq (a := (b (i + k))) (b := ((wdK 4).getD k 0)) (by omega) (by omega)).mp h2
        refine w_blk 1 (pc' := 49) (ls' := [some (.ref 1), some (.ref 104), some (.int (nI i)), some (.int (nI e)), some (.int ((nI k) + 1))]) (sk' := []) (st' := st) (fun _ h => h) ?_
        rw [show ((nI k) + 1) = nI (k + 1) from nI_add k 1]
        refine w_blk 1 (pc' := 15) (ls' := [some (.ref 1), some (.ref 104), some (.int (nI i)), some (.int (nI e)), some (.int (nI (k + 1)))]) (sk' := []) (st' := st) (fun _ h => h) ?_
        exact ih (k + 1) (by omega) (fun t ht => if et : t = k then (by rw [et]; exact h2) else hz t (by omega))
      · replace h2 : ¬ (b (i + k) = (wdK 4).getD k 0) := fun hh => h2 ((nI_eq (a := (b (i + k))) (b := ((wdK 4).getD k 0)) (by omega) (by omega)).mpr hh)
        refine w_blk 1 (pc' := 45) (ls' := [some (.ref 1), some (.ref 104), some (.int (nI i)), some (.int (nI e)), some (.int (nI k))]) (sk' := [.int 0]) (st' := st) (fun _ h => h) ?_
        rw [pI_f (fun e9 => h2 ((isW_i.mp e9).2 k hk2))] at hq
        exact w_iret rfl rfl rfl hq
  · replace h1 : ¬ (e - i = 4) := fun hh => h1 ((nI_eq (a := (e - i)) (b := 4) (by omega) (by omega)).mpr hh)
    refine w_blk 1 (pc' := 11) (ls' := [some (.ref 1), some (.ref 104), some (.int (nI i)), some (.int (nI e)), none]) (sk' := [.int 0]) (st' := st) (fun _ h => h) ?_
    rw [pI_f (fun e9 => h1 (isW_i.mp e9).1)] at hq
    exact w_iret rfl rfl rfl hq
set_option maxRecDepth 20000 in
/-- wordOf -/
theorem c_wordOf (d : Nat) (L : Nat) (b : Nat → Nat) (i e : Nat) (st : mSt) (hP : XS st L b) (hb : ∀ j, j < L → b j < 256) (hL : L ≤ 300) (hie : i < e) (heL : e ≤ L) : mMC mT (d + 6) 75 [.ref 1, .int (nI i), .int (nI e)] st (some (.int (nI (tokW b i e)))) st := by
  refine mI_X7_wordOf (d := d + 5) (Nat.le_of_ble_eq_true rfl) (fun Q hq => ?_)
  show mW (mMC mT (d + 5)) (0, fun _ => 0) (mAtL P_X7_wordOf) (some .int) Q 0 [some (.ref 1), some (.int (nI i)), some (.int (nI e))] [] st
  refine w_blk 4 (pc' := 5) (ls' := [some (.ref 1), some (.int (nI i)), some (.int (nI e))]) (sk' := [.int (nI e), .int (nI i), .ref 100, .ref 1]) (st' := st) (fun _ h => h) ?_
  refine w_callV (As := [.ref 1, .ref 100, .int (nI i), .int (nI e)]) (rest := []) rfl rfl rfl (Nat.le_of_ble_eq_true rfl) (Nat.le_of_ble_eq_true rfl) (by first | exact Or.inl ⟨rfl, rfl⟩ | exact Or.inr ⟨rfl, rfl⟩) (c_isWord0 (d + 0) L b i e st hP hb hL hie heL) ?_
  refine w_if_eq rfl (fun h0 => ?_) (fun h0 => ?_)
  · replace h0 := pI_eq0.mp h0
    refine w_blk 4 (pc' := 19) (ls' := [some (.ref 1), some (.int (nI i)), some (.int (nI e))]) (sk' := [.int (nI e), .int (nI i), .ref 101, .ref 1]) (st' := st) (fun _ h => h) ?_
    refine w_callV (As := [.ref 1, .ref 101, .int (nI i), .int (nI e)]) (rest := []) rfl rfl rfl (Nat.le_of_ble_eq_true rfl) (Nat.le_of_ble_eq_true rfl) (by first | exact Or.inl ⟨rfl, rfl⟩ | exact Or.inr ⟨rfl, rfl⟩) (c_isWord1 (d + 0) L b i e st hP hb hL hie heL) ?_
    refine w_if_eq rfl (fun h1 => ?_) (fun h1 => ?_)
    · replace h1 := pI_eq0.mp h1
      refine w_blk 4 (pc' := 33) (ls' := [some (.ref 1), some (.int (nI i)), some (.int (nI e))]) (sk' := [.int (nI e), .int (nI i), .ref 102, .ref 1]) (st' := st) (fun _ h => h) ?_
      refine w_callV (As := [.ref 1, .ref 102, .int (nI i), .int (nI e)]) (rest := []) rfl rfl rfl (Nat.le_of_ble_eq_true rfl) (Nat.le_of_ble_eq_true rfl) (by first | exact Or.inl ⟨rfl, rfl⟩ | exact Or.inr ⟨rfl, rfl⟩) (c_isWord2 (d + 0) L b i e st hP hb hL hie heL) ?_
      refine w_if_eq rfl (fun h2 => ?_) (fun h2 => ?_)
      · replace h2 := pI_eq0.mp h2
        refine w_blk 4 (pc' := 47) (ls' := [some (.ref 1), some (.int (nI i)), some (.int (nI e))]) (sk' := [.int (nI e), .int (nI i), .ref 103, .ref 1]) (st' := st) (fun _ h => h) ?_
        refine w_callV (As := [.ref 1, .ref 103, .int (nI i), .int (nI e)]) (rest := []) rfl rfl rfl (Nat.le_of_ble_eq_true rfl) (Nat.le_of_ble_eq_true rfl) (by first | exact Or.inl ⟨rfl, rfl⟩ | exact Or.inr ⟨rfl, rfl⟩) (c_isWord3 (d + 0) L b i e st hP hb hL hie heL) ?_
        refine w_if_eq rfl (fun h3 => ?_) (fun h3 => ?_)
        · replace h3 := pI_eq0.mp h3
          refine w_blk 4 (pc' := 61) (ls' := [some (.ref 1), some (.int (nI i)), some (.int (nI e))]) (sk' := [.int (nI e), .int (nI i), .ref 104, .ref 1]) (st' := st) (fun _ h => h) ?_
          refine w_callV (As := [.ref 1, .ref 104, .int (nI i), .int (nI e)]) (rest := []) rfl rfl rfl (Nat.le_of_ble_eq_true rfl) (Nat.le_of_ble_eq_true rfl) (by first | exact Or.inl ⟨rfl, rfl⟩ | exact Or.inr ⟨rfl, rfl⟩) (c_isWord4 (d + 0) L b i e st hP hb hL hie heL) ?_
          refine w_if_eq rfl (fun h4 => ?_) (fun h4 => ?_)
          · replace h4 := pI_eq0.mp h4
            refine w_blk 1 (pc' := 74) (ls' := [some (.ref 1), some (.int (nI i)), some (.int (nI e))]) (sk' := [.int 101]) (st' := st) (fun _ h => h) ?_
            rw [show tokW b i e = 101 from (if_neg h0).trans ((if_neg h1).trans ((if_neg h2).trans ((if_neg h3).trans (if_neg h4))))] at hq
            exact w_iret rfl rfl rfl hq
          · replace h4 := pI_ne.mp h4
            refine w_blk 2 (pc' := 74) (ls' := [some (.ref 1), some (.int (nI i)), some (.int (nI e))]) (sk' := [.int 107]) (st' := st) (fun _ h => h) ?_
            rw [show tokW b i e = 107 from (if_neg h0).trans ((if_neg h1).trans ((if_neg h2).trans ((if_neg h3).trans (if_pos h4))))] at hq
            exact w_iret rfl rfl rfl hq
        · replace h3 := pI_ne.mp h3
          refine w_blk 1 (pc' := 55) (ls' := [some (.ref 1), some (.int (nI i)), some (.int (nI e))]) (sk' := [.int 106]) (st' := st) (fun _ h => h) ?_
          rw [show tokW b i e = 106 from (if_neg h0).trans ((if_neg h1).trans ((if_neg h2).trans (if_pos h3)))] at hq
          exact w_iret rfl rfl rfl hq
      · replace h2 := pI_ne.mp h2
        refine w_blk 1 (pc' := 41) (ls' := [some (.ref 1), some (.int (nI i)), some (.int (nI e))]) (sk' := [.int 105]) (st' := st) (fun _ h => h) ?_
        rw [show tokW b i e = 105 from (if_neg h0).trans ((if_neg h1).trans (if_pos h2))] at hq
        exact w_iret rfl rfl rfl hq
    · replace h1 := pI_ne.mp h1
      refine w_blk 1 (pc' := 27) (ls' := [some (.ref 1), some (.int (nI i)), some (.int (nI e))]) (sk' := [.int 104]) (st' := st) (fun _ h => h) ?_
      rw [show tokW b i e = 104 from (if_neg h0).trans (if_pos h1)] at hq
      exact w_iret rfl rfl rfl hq
  · replace h0 := pI_ne.mp h0
    refine w_blk 1 (pc' := 13) (ls' := [some (.ref 1), some (.int (nI i)), some (.int (nI e))]) (sk' := [.int 103]) (st' := st) (fun _ h => h) ?_
    rw [show tokW b i e = 103 from if_pos h0] at hq
    exact w_iret rfl rfl rfl hq
set_option maxRecDepth 20000 in
/-- c_isLetter -/
theorem c_isLetter (d : Nat) (x : Int32) (st : mSt) : mMC mT (d + 1) 77 [.int x] st (some (.int (pI (97 ≤ x ∧ x ≤ 122)))) st := by
  refine mI_X7_isLetter (d := d + 0) (Nat.le_of_ble_eq_true rfl) (fun Q hq => ?_)
  show mW (mMC mT (d + 0)) (0, fun _ => 0) (mAtL P_X7_isLetter) (some .boolean) Q 0 [some (.int x)] [] st
  refine w_blk 2 (pc' := 3) (ls' := [some (.int x)]) (sk' := [.int 97, .int x]) (st' := st) (fun _ h => h) ?_
  refine w_cmp_lt rfl (fun h1 => ?_) (fun h1 => ?_)
  · refine w_blk 1 (pc' := 17) (ls' := [some (.int x)]) (sk' := [.int 0]) (st' := st) (fun _ h => h) ?_
    rw [pI_f (by simp only [Int32.le_iff_toInt_le, Int32.lt_iff_toInt_lt] at *; omega)] at hq
    exact w_iret rfl rfl rfl hq
  · refine w_blk 2 (pc' := 9) (ls' := [some (.int x)]) (sk' := [.int 122, .int x]) (st' := st) (fun _ h => h) ?_
    refine w_cmp_gt rfl (fun h2 => ?_) (fun h2 => ?_)
    · refine w_blk 1 (pc' := 17) (ls' := [some (.int x)]) (sk' := [.int 0]) (st' := st) (fun _ h => h) ?_
      rw [pI_f (by simp only [Int32.le_iff_toInt_le, Int32.lt_iff_toInt_lt] at *; omega)] at hq
      exact w_iret rfl rfl rfl hq
    · refine w_blk 2 (pc' := 17) (ls' := [some (.int x)]) (sk' := [.int 1]) (st' := st) (fun _ h => h) ?_
      rw [pI_t (by simp only [Int32.le_iff_toInt_le, Int32.lt_iff_toInt_lt] at *; omega)] at hq
      exact w_iret rfl rfl rfl hq
set_option maxRecDepth 20000 in
/-- c_isDigit -/
theorem c_isDigit (d : Nat) (x : Int32) (st : mSt) : mMC mT (d + 1) 78 [.int x] st (some (.int (pI (48 ≤ x ∧ x ≤ 57)))) st := by
  refine mI_X7_isDigit (d := d + 0) (Nat.le_of_ble_eq_true rfl) (fun Q hq => ?_)
  show mW (mMC mT (d + 0)) (0, fun _ => 0) (mAtL P_X7_isDigit) (some .boolean) Q 0 [some (.int x)] [] st
  refine w_blk 2 (pc' := 3) (ls' := [some (.int x)]) (sk' := [.int 48, .int x]) (st' := st) (fun _ h => h) ?_
  refine w_cmp_lt rfl (fun h1 => ?_) (fun h1 => ?_)
  · refine w_blk 1 (pc' := 17) (ls' := [some (.int x)]) (sk' := [.int 0]) (st' := st) (fun _ h => h) ?_
    rw [pI_f (by simp only [Int32.le_iff_toInt_le, Int32.lt_iff_toInt_lt] at *; omega)] at hq
    exact w_iret rfl rfl rfl hq
  · refine w_blk 2 (pc' := 9) (ls' := [some (.int x)]) (sk' := [.int 57, .int x]) (st' := st) (fun _ h => h) ?_
    refine w_cmp_gt rfl (fun h2 => ?_) (fun h2 => ?_)
    · refine w_blk 1 (pc' := 17) (ls' := [some (.int x)]) (sk' := [.int 0]) (st' := st) (fun _ h => h) ?_
      rw [pI_f (by simp only [Int32.le_iff_toInt_le, Int32.lt_iff_toInt_lt] at *; omega)] at hq
      exact w_iret rfl rfl rfl hq
    · refine w_blk 2 (pc' := 17) (ls' := [some (.int x)]) (sk' := [.int 1]) (st' := st) (fun _ h => h) ?_
      rw [pI_t (by simp only [Int32.le_iff_toInt_le, Int32.lt_iff_toInt_lt] at *; omega)] at hq
      exact w_iret rfl rfl rfl hq
set_option maxRecDepth 20000 in
/-- behindBlanks -/
theorem c_behind (d : Nat) (L : Nat) (b : Nat → Nat) (i : Nat) (st : mSt) (hP : XS st L b) (hb : ∀ j, j < L → b j < 256) (hL : L ≤ 300) (hi : i ≤ L) : mMC mT (d + 2) 71 [.ref 1, .int (nI i)] st (some (.int (nI (skB b L i)))) st := by
  refine mI_X7_behindBlanks (d := d + 1) (Nat.le_of_ble_eq_true rfl) (fun Q hq => ?_)
  show mW (mMC mT (d + 1)) (0, fun _ => 0) (mAtL P_X7_behindBlanks) (some .int) Q 0 [some (.ref 1), some (.int (nI i)), none] [] st
  refine w_blk 2 (pc' := 2) (ls' := [some (.ref 1), some (.int (nI i)), some (.int (nI i))]) (sk' := []) (st' := st) (fun _ h => h) ?_
  suffices key : ∀ (m k : Nat), L - k = m → k ≤ L → skB b L k = skB b L i → mW (mMC mT (d + 1)) (0, fun _ => 0) (mAtL P_X7_behindBlanks) (some .int) Q 2 [some (.ref 1), some (.int (nI i)), some (.int (nI k))] [] st from key _ i rfl hi rfl
  intro m
  induction m with
  | zero =>
    intro k hm hk he
    have hkl : k = L := by omega
    rw [show skB b L i = k from by rw [← he]; exact wh_no (fun e => absurd e.1 (by omega))] at hq
    refine w_blk 3 (pc' := 7) (ls' := [some (.ref 1), some (.int (nI i)), some (.int (nI k))]) (sk' := [.int (st.1 1 0), .int (nI k)]) (st' := st) (fun _ h => h) ?_
    rw [hP.1]
    refine w_cmp_ge rfl (fun _ => ?_) (fun hno => absurd (by rw [hkl]; exact Int32.le_refl _) hno)
    refine w_blk 1 (pc' := 30) (ls' := [some (.ref 1), some (.int (nI i)), some (.int (nI k))]) (sk' := [.int (nI k)]) (st' := st) (fun _ h => h) ?_
    exact w_iret rfl rfl rfl hq
  | succ m ih =>
    intro k hm hk he
    have hkl : k < L := by omega
    have hbk := hb k hkl
    refine w_blk 3 (pc' := 7) (ls' := [some (.ref 1), some (.int (nI i)), some (.int (nI k))]) (sk' := [.int (st.1 1 0), .int (nI k)]) (st' := st) (fun _ h => h) ?_
    rw [hP.1]
    refine w_cmp_ge rfl (fun hno => absurd hno (nI_ge hkl (by omega))) (fun _ => ?_)
    refine w_blk 3 (pc' := 15) (ls' := [some (.ref 1), some (.int (nI i)), some (.int (nI k))]) (sk' := [.int (nI k), .ref 2]) (st' := st) (fun _ h => h) ?_
    refine w_callS (As := [.ref 2, .int (nI k)]) (rest := []) rfl rfl rfl (Nat.le_of_ble_eq_true rfl) (Nat.le_of_ble_eq_true rfl) (c_cellK (d + 0) 2 300 k st (by omega) (by decide) rfl) ?_
    rw [hP.2 k (by omega)]
    refine w_blk 1 (pc' := 20) (ls' := [some (.ref 1), some (.int (nI i)), some (.int (nI k))]) (sk' := [.int 32, .int (nI (b k))]) (st' := st) (fun _ h => h) ?_
    refine w_cmp_ne rfl (fun h1 => ?_) (fun h1 => ?_)
    · replace h1 : ¬ (b k = 32) := fun hh => h1 ((nI_eq (a := (b k)) (b := 32) (by omega) (by omega)).mpr hh)
      refine w_blk 1 (pc' := 30) (ls' := [some (.ref 1), some (.int (nI i)), some (.int (nI k))]) (sk' := [.int (nI k)]) (st' := st) (fun _ h => h) ?_
      rw [show skB b L i = k from by rw [← he]; exact wh_no (fun e => h1 (blk_i.mp e.2))] at hq
      exact w_iret rfl rfl rfl hq
    · replace h1 : b k = 32 := (nI_eq (a := (b k)) (b := 32) (by omega) (by omega)).mp (Decidable.not_not.mp h1)
      refine w_blk 1 (pc' := 26) (ls' := [some (.ref 1), some (.int (nI i)), some (.int ((nI k) + 1))]) (sk' := []) (st' := st) (fun _ h => h) ?_
      rw [show ((nI k) + 1) = nI (k + 1) from nI_add k 1]
      refine w_blk 1 (pc' := 2) (ls' := [some (.ref 1), some (.int (nI i)), some (.int (nI (k + 1)))]) (sk' := []) (st' := st) (fun _ h => h) ?_
      exact ih (k + 1) (by omega) (by omega) (by rw [← he]; exact (wh_go hkl (blk_i.mpr h1)).symm)
set_option maxRecDepth 20000 in
/-- endOfToken -/
theorem c_endOf (d : Nat) (L : Nat) (b : Nat → Nat) (i : Nat) (st : mSt) (hP : XS st L b) (hb : ∀ j, j < L → b j < 256) (hL : L ≤ 300) (hi : i < L) : mMC mT (d + 2) 72 [.ref 1, .int (nI i)] st (some (.int (nI (tend b L i)))) st := by
  refine mI_X7_endOfToken (d := d + 1) (Nat.le_of_ble_eq_true rfl) (fun Q hq => ?_)
  show mW (mMC mT (d + 1)) (0, fun _ => 0) (mAtL P_X7_endOfToken) (some .int) Q 0 [some (.ref 1), some (.int (nI i)), none] [] st
  have hbi := hb i hi
  refine w_blk 3 (pc' := 3) (ls' := [some (.ref 1), some (.int (nI i)), none]) (sk' := [.int ((nI i) + 1)]) (st' := st) (fun _ h => h) ?_
  rw [show ((nI i) + 1) = nI (i + 1) from nI_add i 1]
  refine w_blk 4 (pc' := 9) (ls' := [some (.ref 1), some (.int (nI i)), some (.int (nI (i + 1)))]) (sk' := [.int (nI i), .ref 2]) (st' := st) (fun _ h => h) ?_
  refine w_callS (As := [.ref 2, .int (nI i)]) (rest := []) rfl rfl rfl (Nat.le_of_ble_eq_true rfl) (Nat.le_of_ble_eq_true rfl) (c_cellK (d + 0) 2 300 i st (by omega) (by decide) rfl) ?_
  rw [hP.2 i (by omega)]
  refine w_callS (As := [.int (nI (b i))]) (rest := []) rfl rfl rfl (Nat.le_of_ble_eq_true rfl) (Nat.le_of_ble_eq_true rfl) (c_isLetter (d + 0) (nI (b i)) st) ?_
  rw [in_l hbi]
  refine w_if_eq rfl (fun h1 => ?_) (fun h1 => ?_)
  · replace h1 := pI_eq0.mp h1
    refine w_blk 3 (pc' := 51) (ls' := [some (.ref 1), some (.int (nI i)), some (.int (nI (i + 1)))]) (sk' := [.int (nI i), .ref 2]) (st' := st) (fun _ h => h) ?_
    refine w_callS (As := [.ref 2, .int (nI i)]) (rest := []) rfl rfl rfl (Nat.le_of_ble_eq_true rfl) (Nat.le_of_ble_eq_true rfl) (c_cellK (d + 0) 2 300 i st (by omega) (by decide) rfl) ?_
    rw [hP.2 i (by omega)]
    refine w_callS (As := [.int (nI (b i))]) (rest := []) rfl rfl rfl (Nat.le_of_ble_eq_true rfl) (Nat.le_of_ble_eq_true rfl) (c_isDigit (d + 0) (nI (b i)) st) ?_
    rw [in_d hbi]
    refine w_if_eq rfl (fun h2 => ?_) (fun h2 => ?_)
    · replace h2 := pI_eq0.mp h2
      rw [show tend b L i = i + 1 from (if_neg h1).trans (if_neg h2)] at hq
      refine w_blk 1 (pc' := 89) (ls' := [some (.ref 1), some (.int (nI i)), some (.int (nI (i + 1)))]) (sk' := [.int (nI (i + 1))]) (st' := st) (fun _ h => h) ?_
      exact w_iret rfl rfl rfl hq
    · replace h2 := pI_ne.mp h2
      suffices key : ∀ (m k : Nat), L - k = m → k ≤ L → wh (dig b) L k = tend b L i → mW (mMC mT (d + 1)) (0, fun _ => 0) (mAtL P_X7_endOfToken) (some .int) Q 60 [some (.ref 1), some (.int (nI i)), some (.int (nI k))] [] st from key _ (i + 1) rfl (by omega) (tend_dig h2).1.symm
      intro m
      induction m with
      | zero =>
        intro k hm hk he
        have hkl : k = L := by omega
        rw [show tend b L i = k from by rw [← he]; exact wh_no (fun e => absurd e.1 (by omega))] at hq
        refine w_blk 3 (pc' := 65) (ls' := [some (.ref 1), some (.int (nI i)), some (.int (nI k))]) (sk' := [.int (st.1 1 0), .int (nI k)]) (st' := st) (fun _ h => h) ?_
        rw [hP.1]
        refine w_cmp_ge rfl (fun _ => ?_) (fun hno => absurd (by rw [hkl]; exact Int32.le_refl _) hno)
        refine w_blk 1 (pc' := 89) (ls' := [some (.ref 1), some (.int (nI i)), some (.int (nI k))]) (sk' := [.int (nI k)]) (st' := st) (fun _ h => h) ?_
        exact w_iret rfl rfl rfl hq
      | succ m ih =>
        intro k hm hk he
        have hkl : k < L := by omega
        have hbk := hb k hkl
        refine w_blk 3 (pc' := 65) (ls' := [some (.ref 1), some (.int (nI i)), some (.int (nI k))]) (sk' := [.int (st.1 1 0), .int (nI k)]) (st' := st) (fun _ h => h) ?_
        rw [hP.1]
        refine w_cmp_ge rfl (fun hno => absurd hno (nI_ge hkl (by omega))) (fun _ => ?_)
        refine w_blk 3 (pc' := 73) (ls' := [some (.ref 1), some (.int (nI i)), some (.int (nI k))]) (sk' := [.int (nI k), .ref 2]) (st' := st) (fun _ h => h) ?_
        refine w_callS (As := [.ref 2, .int (nI k)]) (rest := []) rfl rfl rfl (Nat.le_of_ble_eq_true rfl) (Nat.le_of_ble_eq_true rfl) (c_cellK (d + 0) 2 300 k st (by omega) (by decide) rfl) ?_
        rw [hP.2 k (by omega)]
        refine w_callS (As := [.int (nI (b k))]) (rest := []) rfl rfl rfl (Nat.le_of_ble_eq_true rfl) (Nat.le_of_ble_eq_true rfl) (c_isDigit (d + 0) (nI (b k)) st) ?_
        rw [in_d hbk]
        refine w_if_eq rfl (fun h3 => ?_) (fun h3 => ?_)
        · replace h3 := pI_eq0.mp h3
          refine w_blk 1 (pc' := 89) (ls' := [some (.ref 1), some (.int (nI i)), some (.int (nI k))]) (sk' := [.int (nI k)]) (st' := st) (fun _ h => h) ?_
          rw [show tend b L i = k from by rw [← he]; exact wh_no (fun e => h3 e.2)] at hq
          exact w_iret rfl rfl rfl hq
        · replace h3 := pI_ne.mp h3
          refine w_blk 1 (pc' := 85) (ls' := [some (.ref 1), some (.int (nI i)), some (.int ((nI k) + 1))]) (sk' := []) (st' := st) (fun _ h => h) ?_
          rw [show ((nI k) + 1) = nI (k + 1) from nI_add k 1]
          refine w_blk 1 (pc' := 60) (ls' := [some (.ref 1), some (.int (nI i)), some (.int (nI (k + 1)))]) (sk' := []) (st' := st) (fun _ h => h) ?_
          exact ih (k + 1) (by omega) (by omega) (by rw [← he]; exact (wh_go hkl h3).symm)
  · replace h1 := pI_ne.mp h1
    suffices key : ∀ (m k : Nat), L - k = m → k ≤ L → wh (ltr b) L k = tend b L i → mW (mMC mT (d + 1)) (0, fun _ => 0) (mAtL P_X7_endOfToken) (some .int) Q 18 [some (.ref 1), some (.int (nI i)), some (.int (nI k))] [] st from key _ (i + 1) rfl (by omega) (tend_ltr h1).1.symm
    intro m
    induction m with
    | zero =>
      intro k hm hk he
      have hkl : k = L := by omega
      rw [show tend b L i = k from by rw [← he]; exact wh_no (fun e => absurd e.1 (by omega))] at hq
      refine w_blk 3 (pc' := 23) (ls' := [some (.ref 1), some (.int (nI i)), some (.int (nI k))]) (sk' := [.int (st.1 1 0), .int (nI k)]) (st' := st) (fun _ h => h) ?_
      rw [hP.1]
      refine w_cmp_ge rfl (fun _ => ?_) (fun hno => absurd (by rw [hkl]; exact Int32.le_refl _) hno)
      refine w_blk 1 (pc' := 89) (ls' := [some (.ref 1), some (.int (nI i)), some (.int (nI k))]) (sk' := [.int (nI k)]) (st' := st) (fun _ h => h) ?_
      exact w_iret rfl rfl rfl hq
    | succ m ih =>
      intro k hm hk he
      have hkl : k < L := by omega
      have hbk := hb k hkl
      refine w_blk 3 (pc' := 23) (ls' := [some (.ref 1), some (.int (nI i)), some (.int (nI k))]) (sk' := [.int (st.1 1 0), .int (nI k)]) (st' := st) (fun _ h => h) ?_
      rw [hP.1]
      refine w_cmp_ge rfl (fun hno => absurd hno (nI_ge hkl (by omega))) (fun _ => ?_)
      refine w_blk 3 (pc' := 31) (ls' := [some (.ref 1), some (.int (nI i)), some (.int (nI k))]) (sk' := [.int (nI k), .ref 2]) (st' := st) (fun _ h => h) ?_
      refine w_callS (As := [.ref 2, .int (nI k)]) (rest := []) rfl rfl rfl (Nat.le_of_ble_eq_true rfl) (Nat.le_of_ble_eq_true rfl) (c_cellK (d + 0) 2 300 k st (by omega) (by decide) rfl) ?_
      rw [hP.2 k (by omega)]
      refine w_callS (As := [.int (nI (b k))]) (rest := []) rfl rfl rfl (Nat.le_of_ble_eq_true rfl) (Nat.le_of_ble_eq_true rfl) (c_isLetter (d + 0) (nI (b k)) st) ?_
      rw [in_l hbk]
      refine w_if_eq rfl (fun h3 => ?_) (fun h3 => ?_)
      · replace h3 := pI_eq0.mp h3
        refine w_blk 1 (pc' := 89) (ls' := [some (.ref 1), some (.int (nI i)), some (.int (nI k))]) (sk' := [.int (nI k)]) (st' := st) (fun _ h => h) ?_
        rw [show tend b L i = k from by rw [← he]; exact wh_no (fun e => h3 e.2)] at hq
        exact w_iret rfl rfl rfl hq
      · replace h3 := pI_ne.mp h3
        refine w_blk 1 (pc' := 43) (ls' := [some (.ref 1), some (.int (nI i)), some (.int ((nI k) + 1))]) (sk' := []) (st' := st) (fun _ h => h) ?_
        rw [show ((nI k) + 1) = nI (k + 1) from nI_add k 1]
        refine w_blk 1 (pc' := 18) (ls' := [some (.ref 1), some (.int (nI i)), some (.int (nI (k + 1)))]) (sk' := []) (st' := st) (fun _ h => h) ?_
        exact ih (k + 1) (by omega) (by omega) (by rw [← he]; exact (wh_go hkl h3).symm)
set_option maxRecDepth 20000 in
/-- numberOf -/
theorem c_numOf (d : Nat) (L : Nat) (b : Nat → Nat) (i e : Nat) (st : mSt) (hP : XS st L b) (hb : ∀ j, j < L → b j < 256) (hL : L ≤ 300) (hie : i < e) (heL : e ≤ L) (hd : ∀ j, i ≤ j → j < e → dig b j = true) : mMC mT (d + 2) 74 [.ref 1, .int (nI i), .int (nI e)] st (some (.int (nI (tokN b i e)))) st := by
  refine mI_X7_numberOf (d := d + 1) (Nat.le_of_ble_eq_true rfl) (fun Q hq => ?_)
  show mW (mMC mT (d + 1)) (0, fun _ => 0) (mAtL P_X7_numberOf) (some .int) Q 0 [some (.ref 1), some (.int (nI i)), some (.int (nI e)), none, none] [] st
  have hd0 := dig_i.mp (hd i (Nat.le_refl _) hie)
  refine w_blk 3 (pc' := 3) (ls' := [some (.ref 1), some (.int (nI i)), some (.int (nI e)), none, none]) (sk' := [.int ((nI e) - (nI i))]) (st' := st) (fun _ h => h) ?_
  rw [show ((nI e) - (nI i)) = nI (e - i) from pk_sub (a := e) (b := i) (by omega)]
  refine w_blk 4 (pc' := 9) (ls' := [some (.ref 1), some (.int (nI i)), some (.int (nI e)), some (.int (nI (e - i))), none]) (sk' := [.int (nI i), .ref 2]) (st' := st) (fun _ h => h) ?_
  refine w_callS (As := [.ref 2, .int (nI i)]) (rest := []) rfl rfl rfl (Nat.le_of_ble_eq_true rfl) (Nat.le_of_ble_eq_true rfl) (c_cellK (d + 0) 2 300 i st (by omega) (by decide) rfl) ?_
  rw [hP.2 i (by omega)]
  refine w_blk 2 (pc' := 15) (ls' := [some (.ref 1), some (.int (nI i)), some (.int (nI e)), some (.int (nI (e - i))), none]) (sk' := [.int ((nI (b i)) - 48)]) (st' := st) (fun _ h => h) ?_
  rw [show ((nI (b i)) - 48) = nI ((b i) - 48) from pk_sub (a := b i) (b := 48) (by omega)]
  refine w_blk 3 (pc' := 19) (ls' := [some (.ref 1), some (.int (nI i)), some (.int (nI e)), some (.int (nI (e - i))), some (.int (nI ((b i) - 48)))]) (sk' := [.int 1, .int (nI (e - i))]) (st' := st) (fun _ h => h) ?_
  refine w_cmp_ne rfl (fun h1 => ?_) (fun h1 => ?_)
  · replace h1 : ¬ (e - i = 1) := fun hh => h1 ((nI_eq (a := (e - i)) (b := 1) (by omega) (by omega)).mpr hh)
    refine w_blk 2 (pc' := 27) (ls' := [some (.ref 1), some (.int (nI i)), some (.int (nI e)), some (.int (nI (e - i))), some (.int (nI ((b i) - 48)))]) (sk' := [.int 2, .int (nI (e - i))]) (st' := st) (fun _ h => h) ?_
    refine w_cmp_gt rfl (fun h2 => ?_) (fun h2 => ?_)
    · replace h2 : 2 < e - i := (nI_ltI (a := 2) (b := (e - i)) (by omega) (by omega)).mp h2
      refine w_blk 2 (pc' := 59) (ls' := [some (.ref 1), some (.int (nI i)), some (.int (nI e)), some (.int (nI (e - i))), some (.int (nI ((b i) - 48)))]) (sk' := [.int 101]) (st' := st) (fun _ h => h) ?_
      rw [show tokN b i e = 101 from (if_neg (by omega)).trans (if_pos (by omega))] at hq
      exact w_iret rfl rfl rfl hq
    · replace h2 : ¬ (2 < e - i) := fun hh => h2 ((nI_ltI (a := 2) (b := (e - i)) (by omega) (by omega)).mpr hh)
      refine w_blk 1 (pc' := 32) (ls' := [some (.ref 1), some (.int (nI i)), some (.int (nI e)), some (.int (nI (e - i))), some (.int (nI ((b i) - 48)))]) (sk' := [.int (nI ((b i) - 48))]) (st' := st) (fun _ h => h) ?_
      refine w_if_ne rfl (fun h3 => ?_) (fun h3 => ?_)
      · replace h3 : ¬ ((b i) - 48 = 0) := fun hh => h3 ((nI_eq (a := ((b i) - 48)) (b := 0) (by omega) (by omega)).mpr hh)
        have he1 : i + 1 < e := by omega
        have hd1 := dig_i.mp (hd (i + 1) (by omega) he1)
        refine w_blk 3 (pc' := 45) (ls' := [some (.ref 1), some (.int (nI i)), some (.int (nI e)), some (.int (nI (e - i))), some (.int (nI ((b i) - 48)))]) (sk' := [.int ((nI ((b i) - 48)) * 10)]) (st' := st) (fun _ h => h) ?_
        rw [show ((nI ((b i) - 48)) * 10) = nI (((b i) - 48) * 10) from pk_mul ((b i) - 48) 10]
        refine w_blk 5 (pc' := 52) (ls' := [some (.ref 1), some (.int (nI i)), some (.int (nI e)), some (.int (nI (e - i))), some (.int (nI ((b i) - 48)))]) (sk' := [.int ((nI i) + 1), .ref 2, .int (nI (((b i) - 48) * 10))]) (st' := st) (fun _ h => h) ?_
        rw [show ((nI i) + 1) = nI (i + 1) from nI_add i 1]
        refine w_callS (As := [.ref 2, .int (nI (i + 1))]) (rest := [.int (nI (((b i) - 48) * 10))]) rfl rfl rfl (Nat.le_of_ble_eq_true rfl) (Nat.le_of_ble_eq_true rfl) (c_cellK (d + 0) 2 300 (i + 1) st (by omega) (by decide) rfl) ?_
        rw [hP.2 (i + 1) (by omega)]
        refine w_blk 1 (pc' := 56) (ls' := [some (.ref 1), some (.int (nI i)), some (.int (nI e)), some (.int (nI (e - i))), some (.int (nI ((b i) - 48)))]) (sk' := [.int ((nI (((b i) - 48) * 10)) + (nI (b (i + 1))))]) (st' := st) (fun _ h => h) ?_
        rw [show ((nI (((b i) - 48) * 10)) + (nI (b (i + 1)))) = nI ((((b i) - 48) * 10) + (b (i + 1))) from nI_add (((b i) - 48) * 10) (b (i + 1))]
        refine w_blk 2 (pc' := 59) (ls' := [some (.ref 1), some (.int (nI i)), some (.int (nI e)), some (.int (nI (e - i))), some (.int (nI ((b i) - 48)))]) (sk' := [.int ((nI ((((b i) - 48) * 10) + (b (i + 1)))) - 48)]) (st' := st) (fun _ h => h) ?_
        rw [show ((nI ((((b i) - 48) * 10) + (b (i + 1)))) - 48) = nI (((((b i) - 48) * 10) + (b (i + 1))) - 48) from pk_sub (a := (((b i) - 48) * 10) + (b (i + 1))) (b := 48) (by omega)]
        rw [show tokN b i e = ((((b i) - 48) * 10) + (b (i + 1))) - 48 from (if_neg (by omega)).trans ((if_neg (by omega)).trans (by omega))] at hq
        exact w_iret rfl rfl rfl hq
      · replace h3 : (b i) - 48 = 0 := (nI_eq (a := ((b i) - 48)) (b := 0) (by omega) (by omega)).mp (Decidable.not_not.mp h3)
        refine w_blk 2 (pc' := 59) (ls' := [some (.ref 1), some (.int (nI i)), some (.int (nI e)), some (.int (nI (e - i))), some (.int (nI ((b i) - 48)))]) (sk' := [.int 101]) (st' := st) (fun _ h => h) ?_
        rw [show tokN b i e = 101 from (if_neg (by omega)).trans (if_pos (by omega))] at hq
        exact w_iret rfl rfl rfl hq
  · replace h1 : e - i = 1 := (nI_eq (a := (e - i)) (b := 1) (by omega) (by omega)).mp (Decidable.not_not.mp h1)
    refine w_blk 1 (pc' := 24) (ls' := [some (.ref 1), some (.int (nI i)), some (.int (nI e)), some (.int (nI (e - i))), some (.int (nI ((b i) - 48)))]) (sk' := [.int (nI ((b i) - 48))]) (st' := st) (fun _ h => h) ?_
    rw [show tokN b i e = b i - 48 from if_pos (by omega)] at hq
    exact w_iret rfl rfl rfl hq
set_option maxRecDepth 20000 in
/-- tokenOf -/
theorem c_tokenOf (d : Nat) (L : Nat) (b : Nat → Nat) (i : Nat) (st : mSt) (hP : XS st L b) (hb : ∀ j, j < L → b j < 256) (hL : L ≤ 300) (hi : i < L) : mMC mT (d + 7) 73 [.ref 1, .int (nI i), .int (nI (tend b L i))] st (some (.int (nI (tokO b i (tend b L i))))) st := by
  refine mI_X7_tokenOf (d := d + 6) (Nat.le_of_ble_eq_true rfl) (fun Q hq => ?_)
  show mW (mMC mT (d + 6)) (0, fun _ => 0) (mAtL P_X7_tokenOf) (some .int) Q 0 [some (.ref 1), some (.int (nI i)), some (.int (nI (tend b L i))), none] [] st
  have hbi := hb i hi
  have hte := tend_le (b := b) hi
  have htg := tend_gt b L i
  obtain ⟨e, he⟩ : ∃ e, tend b L i = e := ⟨_, rfl⟩
  rw [he] at hte htg hq ⊢
  refine w_blk 3 (pc' := 5) (ls' := [some (.ref 1), some (.int (nI i)), some (.int (nI e)), none]) (sk' := [.int (nI i), .ref 2]) (st' := st) (fun _ h => h) ?_
  refine w_callS (As := [.ref 2, .int (nI i)]) (rest := []) rfl rfl rfl (Nat.le_of_ble_eq_true rfl) (Nat.le_of_ble_eq_true rfl) (c_cellK (d + 5) 2 300 i st (by omega) (by decide) rfl) ?_
  rw [hP.2 i (by omega)]
  refine w_blk 2 (pc' := 10) (ls' := [some (.ref 1), some (.int (nI i)), some (.int (nI e)), some (.int (nI (b i)))]) (sk' := [.int (nI (b i))]) (st' := st) (fun _ h => h) ?_
  refine w_callS (As := [.int (nI (b i))]) (rest := []) rfl rfl rfl (Nat.le_of_ble_eq_true rfl) (Nat.le_of_ble_eq_true rfl) (c_isDigit (d + 5) (nI (b i)) st) ?_
  rw [in_d hbi]
  refine w_if_eq rfl (fun h1 => ?_) (fun h1 => ?_)
  · replace h1 := pI_eq0.mp h1
    refine w_blk 1 (pc' := 24) (ls' := [some (.ref 1), some (.int (nI i)), some (.int (nI e)), some (.int (nI (b i)))]) (sk' := [.int (nI (b i))]) (st' := st) (fun _ h => h) ?_
    refine w_callS (As := [.int (nI (b i))]) (rest := []) rfl rfl rfl (Nat.le_of_ble_eq_true rfl) (Nat.le_of_ble_eq_true rfl) (c_isLetter (d + 5) (nI (b i)) st) ?_
    rw [in_l hbi]
    refine w_if_eq rfl (fun h2 => ?_) (fun h2 => ?_)
    · replace h2 := pI_eq0.mp h2
      refine w_blk 2 (pc' := 40) (ls' := [some (.ref 1), some (.int (nI i)), some (.int (nI e)), some (.int (nI (b i)))]) (sk' := [.int 59, .int (nI (b i))]) (st' := st) (fun _ h => h) ?_
      refine w_cmp_ne rfl (fun h3 => ?_) (fun h3 => ?_)
      · replace h3 : ¬ (b i = 59) := fun hh => h3 ((nI_eq (a := (b i)) (b := 59) (by omega) (by omega)).mpr hh)
        refine w_blk 1 (pc' := 50) (ls' := [some (.ref 1), some (.int (nI i)), some (.int (nI e)), some (.int (nI (b i)))]) (sk' := [.int 101]) (st' := st) (fun _ h => h) ?_
        rw [show tokO b i e = 101 from (if_neg h1).trans ((if_neg h2).trans (if_neg h3))] at hq
        exact w_iret rfl rfl rfl hq
      · replace h3 : b i = 59 := (nI_eq (a := (b i)) (b := 59) (by omega) (by omega)).mp (Decidable.not_not.mp h3)
        refine w_blk 2 (pc' := 50) (ls' := [some (.ref 1), some (.int (nI i)), some (.int (nI e)), some (.int (nI (b i)))]) (sk' := [.int 102]) (st' := st) (fun _ h => h) ?_
        rw [show tokO b i e = 102 from (if_neg h1).trans ((if_neg h2).trans (if_pos h3))] at hq
        exact w_iret rfl rfl rfl hq
    · replace h2 := pI_ne.mp h2
      rw [show tokO b i e = tokW b i e from (if_neg h1).trans (if_pos h2)] at hq
      have hc := c_wordOf (d + 0) L b i e st hP hb hL htg hte
      refine w_blk 3 (pc' := 33) (ls' := [some (.ref 1), some (.int (nI i)), some (.int (nI e)), some (.int (nI (b i)))]) (sk' := [.int (nI e), .int (nI i), .ref 1]) (st' := st) (fun _ h => h) ?_
      refine w_callV (As := [.ref 1, .int (nI i), .int (nI e)]) (rest := []) rfl rfl rfl (Nat.le_of_ble_eq_true rfl) (Nat.le_of_ble_eq_true rfl) (by first | exact Or.inl ⟨rfl, rfl⟩ | exact Or.inr ⟨rfl, rfl⟩) hc ?_
      exact w_iret rfl rfl rfl hq
  · replace h1 := pI_ne.mp h1
    rw [show tokO b i e = tokN b i e from if_pos h1] at hq
    have hdd := (tend_dig (L := L) h1).2
    rw [he] at hdd
    have hc := c_numOf (d + 4) L b i e st hP hb hL htg hte hdd
    refine w_blk 3 (pc' := 19) (ls' := [some (.ref 1), some (.int (nI i)), some (.int (nI e)), some (.int (nI (b i)))]) (sk' := [.int (nI e), .int (nI i), .ref 1]) (st' := st) (fun _ h => h) ?_
    refine w_callV (As := [.ref 1, .int (nI i), .int (nI e)]) (rest := []) rfl rfl rfl (Nat.le_of_ble_eq_true rfl) (Nat.le_of_ble_eq_true rfl) (by first | exact Or.inl ⟨rfl, rfl⟩ | exact Or.inr ⟨rfl, rfl⟩) hc ?_
    exact w_iret rfl rfl rfl hq
set_option maxRecDepth 20000 in
/-- cutIntoTokens() -/
theorem c_cut (d : Nat) (L : Nat) (b : Nat → Nat) (st : mSt) (hP : XS st L b) (hb : ∀ j, j < L → b j < 256) (hL : L ≤ 300) : ∃ (A : Nat) (s : mSt), mMC mT (d + 8) 70 [.ref 1] st (none) s ∧ A ≤ 300 ∧ TT b L A = 100 ∧ (∀ k, k ≤ A → s.1 3 k = nI (TT b L k) ∧ s.1 4 k = nI (ps b L k)) ∧ Fr [3, 4] st s ∧ s.2 = st.2 := by
  suffices H : ∀ Q : Option Value → mSt → Prop, (∀ (A : Nat) (s : mSt), (A ≤ 300 ∧ TT b L A = 100 ∧ (∀ k, k ≤ A → s.1 3 k = nI (TT b L k) ∧ s.1 4 k = nI (ps b L k)) ∧ Fr [3, 4] st s ∧ s.2 = st.2) → Q (none) s) → mW (mMC mT (d + 7)) (0, fun _ => 0) (mAtL P_X7_cutIntoTokens) none Q 0 [some (.ref 1), none, none, none] [] st by
    obtain ⟨_, _, ⟨A, s, rfl, rfl, hp⟩, hw⟩ := mW_ex (H (fun vv tt => ∃ (A : Nat) (s : mSt),  vv = none ∧ s = tt ∧ A ≤ 300 ∧ TT b L A = 100 ∧ (∀ k, k ≤ A → s.1 3 k = nI (TT b L k) ∧ s.1 4 k = nI (ps b L k)) ∧ Fr [3, 4] st s ∧ s.2 = st.2) (fun A s hp => ⟨A, s, rfl, rfl, hp⟩))
    exact ⟨A, s, mI_X7_cutIntoTokens (d := d + 7) (Nat.le_of_ble_eq_true rfl) hw, hp⟩
  intro Q hq
  refine w_blk 2 (pc' := 2) (ls' := [some (.ref 1), none, none, none]) (sk' := [.int 0, .ref 1]) (st' := st) (fun _ h => h) ?_
  refine w_callV (As := [.ref 1, .int 0]) (rest := []) rfl rfl rfl (Nat.le_of_ble_eq_true rfl) (Nat.le_of_ble_eq_true rfl) (by first | exact Or.inl ⟨rfl, rfl⟩ | exact Or.inr ⟨rfl, rfl⟩) (c_behind (d + 5) L b 0 st hP hb hL (Nat.zero_le _)) ?_
  refine w_blk 3 (pc' := 8) (ls' := [some (.ref 1), some (.int (nI (skB b L 0))), some (.int 0), none]) (sk' := []) (st' := st) (fun _ h => h) ?_
  have hpl := ps_le b L
  have keyE : ∀ (k : Nat) (s0 : mSt) (l3 : Option Value), k ≤ 300 → ps b L k = L → Fr [3, 4] st s0 → s0.2 = st.2 → (∀ j, j < k → s0.1 3 j = nI (TT b L j) ∧ s0.1 4 j = nI (ps b L j)) → mW (mMC mT (d + 7)) (0, fun _ => 0) (mAtL P_X7_cutIntoTokens) none Q 64 [some (.ref 1), some (.int (nI (ps b L k))), some (.int (nI k)), l3] [] s0 := by
    intro k s0 l3 hk hps hf h2 hz
    have hP0 : XS s0 L b := XS_fr hf (by decide) (by rw [hf.1 1 (by decide)]) hP
    have ht : TT b L k = 100 := (TT_r b L k).2.mpr hps
    refine w_blk 4 (pc' := 71) (ls' := [some (.ref 1), some (.int (nI (ps b L k))), some (.int (nI k)), l3]) (sk' := [.int 100, .int (nI k), .ref 3]) (st' := s0) (fun _ h => h) ?_
    refine w_callS (As := [.ref 3, .int (nI k), .int 100]) (rest := []) rfl rfl rfl (Nat.le_of_ble_eq_true rfl) (Nat.le_of_ble_eq_true rfl) (c_putK (d + 6) 3 301 k 100 s0 (by omega) (by decide) rfl) ?_
    refine w_blk 5 (pc' := 83) (ls' := [some (.ref 1), some (.int (nI (ps b L k))), some (.int (nI k)), l3]) (sk' := [.int (s0.1 1 0), .int (nI k), .ref 4]) (st' := ((mU s0.1 3 k 100), s0.2)) (fun _ h => h) ?_
    rw [hP0.1]
    refine w_callS (As := [.ref 4, .int (nI k), .int (nI L)]) (rest := []) rfl rfl rfl (Nat.le_of_ble_eq_true rfl) (Nat.le_of_ble_eq_true rfl) (c_putK (d + 6) 4 301 k (nI L) ((mU s0.1 3 k 100), s0.2) (by omega) (by decide) rfl) ?_
    refine w_vret rfl rfl (hq k ((mU (mU s0.1 3 k 100) 4 k (nI L)), s0.2) ⟨hk, ht, fun j hj => ?_, Fr.trans hf (Fr.trans (Fr.mU (by decide)) (Fr.mU (by decide))), h2⟩)
    have hw := w2 s0.1 (p := 3) (q := 4) (by decide) k j 100 (nI L)
    by_cases ej : j = k
    · have h9 := hw.1 ej
      rw [ej, ht, hps]
      rw [ej] at h9
      exact h9
    · have hz2 := hz j (by omega)
      exact ⟨((hw.2 ej).1).trans hz2.1, ((hw.2 ej).2).trans hz2.2⟩
  suffices key : ∀ (m k : Nat) (s0 : mSt) (l3 : Option Value), k + m = 300 → Fr [3, 4] st s0 → s0.2 = st.2 → (∀ j, j < k → s0.1 3 j = nI (TT b L j) ∧ s0.1 4 j = nI (ps b L j)) → mW (mMC mT (d + 7)) (0, fun _ => 0) (mAtL P_X7_cutIntoTokens) none Q 8 [some (.ref 1), some (.int (nI (ps b L k))), some (.int (nI k)), l3] [] s0 from key 300 0 st none (by omega) Fr.rf rfl (fun j hj => absurd hj (Nat.not_lt_zero _))
  intro m
  induction m with
  | zero =>
    intro k s0 l3 hk hf h2 hz
    have hP0 : XS s0 L b := XS_fr hf (by decide) (by rw [hf.1 1 (by decide)]) hP
    have hpk := hpl k
    obtain rfl : k = 300 := by omega
    refine w_blk 2 (pc' := 12) (ls' := [some (.ref 1), some (.int (nI (ps b L 300))), some (.int (nI 300)), l3]) (sk' := [.int 300, .int (nI 300)]) (st' := s0) (fun _ h => h) ?_
    refine w_cmp_ge rfl (fun _ => ?_) (fun hno => absurd (by decide) hno)
    exact keyE 300 s0 l3 (by omega) (by have := ps_k b L 300; omega) hf h2 hz
  | succ m ih =>
    intro k s0 l3 hk hf h2 hz
    have hP0 : XS s0 L b := XS_fr hf (by decide) (by rw [hf.1 1 (by decide)]) hP
    have hpk := hpl k
    have hk3 : k < 300 := by omega
    refine w_blk 2 (pc' := 12) (ls' := [some (.ref 1), some (.int (nI (ps b L k))), some (.int (nI k)), l3]) (sk' := [.int 300, .int (nI k)]) (st' := s0) (fun _ h => h) ?_
    refine w_cmp_ge rfl (fun hno => absurd hno (nI_ge (a := k) (b := 300) hk3 (by decide))) (fun _ => ?_)
    refine w_blk 3 (pc' := 20) (ls' := [some (.ref 1), some (.int (nI (ps b L k))), some (.int (nI k)), l3]) (sk' := [.int (s0.1 1 0), .int (nI (ps b L k))]) (st' := s0) (fun _ h => h) ?_
    rw [hP0.1]
    refine w_cmp_ge rfl (fun h1 => ?_) (fun h1 => ?_)
    · replace h1 : L ≤ ps b L k := (nI_leI (a := L) (b := (ps b L k)) (by omega) (by omega)).mp h1
      exact keyE k s0 l3 (by omega) (by omega) hf h2 hz
    · replace h1 : ¬ (L ≤ ps b L k) := fun hh => h1 ((nI_leI (a := L) (b := (ps b L k)) (by omega) (by omega)).mpr hh)
      have hpL : ps b L k < L := by omega
      have hte := tend_le (b := b) hpL
      have htg := tend_gt b L (ps b L k)
      have hnx : nxt b L (ps b L k) = tend b L (ps b L k) := if_pos hpL
      have hTk : TT b L k = tokO b (ps b L k) (tend b L (ps b L k)) := if_pos hpL
      have hc1 := c_endOf (d + 5) L b (ps b L k) s0 hP0 hb hL hpL
      have hc2 := c_tokenOf (d + 0) L b (ps b L k) s0 hP0 hb hL hpL
      refine w_blk 2 (pc' := 25) (ls' := [some (.ref 1), some (.int (nI (ps b L k))), some (.int (nI k)), l3]) (sk' := [.int (nI (ps b L k)), .ref 1]) (st' := s0) (fun _ h => h) ?_
      refine w_callV (As := [.ref 1, .int (nI (ps b L k))]) (rest := []) rfl rfl rfl (Nat.le_of_ble_eq_true rfl) (Nat.le_of_ble_eq_true rfl) (by first | exact Or.inl ⟨rfl, rfl⟩ | exact Or.inr ⟨rfl, rfl⟩) hc1 ?_
      refine w_blk 7 (pc' := 37) (ls' := [some (.ref 1), some (.int (nI (ps b L k))), some (.int (nI k)), some (.int (nI (tend b L (ps b L k))))]) (sk' := [.int (nI (tend b L (ps b L k))), .int (nI (ps b L k)), .ref 1, .int (nI k), .ref 3]) (st' := s0) (fun _ h => h) ?_
      refine w_callV (As := [.ref 1, .int (nI (ps b L k)), .int (nI (tend b L (ps b L k)))]) (rest := [.int (nI k), .ref 3]) rfl rfl rfl (Nat.le_of_ble_eq_true rfl) (Nat.le_of_ble_eq_true rfl) (by first | exact Or.inl ⟨rfl, rfl⟩ | exact Or.inr ⟨rfl, rfl⟩) hc2 ?_
      rw [← hTk]
      refine w_callS (As := [.ref 3, .int (nI k), .int (nI (TT b L k))]) (rest := []) rfl rfl rfl (Nat.le_of_ble_eq_true rfl) (Nat.le_of_ble_eq_true rfl) (c_putK (d + 6) 3 301 k (nI (TT b L k)) s0 (by omega) (by decide) rfl) ?_
      refine w_blk 4 (pc' := 49) (ls' := [some (.ref 1), some (.int (nI (ps b L k))), some (.int (nI k)), some (.int (nI (tend b L (ps b L k))))]) (sk' := [.int (nI (ps b L k)), .int (nI k), .ref 4]) (st' := ((mU s0.1 3 k (nI (TT b L k))), s0.2)) (fun _ h => h) ?_
      refine w_callS (As := [.ref 4, .int (nI k), .int (nI (ps b L k))]) (rest := []) rfl rfl rfl (Nat.le_of_ble_eq_true rfl) (Nat.le_of_ble_eq_true rfl) (c_putK (d + 6) 4 301 k (nI (ps b L k)) ((mU s0.1 3 k (nI (TT b L k))), s0.2) (by omega) (by decide) rfl) ?_
      have hf1 : Fr [3, 4] st ((mU (mU s0.1 3 k (nI (TT b L k))) 4 k (nI (ps b L k))), s0.2) := Fr.trans hf (Fr.trans (Fr.mU (by decide)) (Fr.mU (by decide)))
      have hP1 : XS ((mU (mU s0.1 3 k (nI (TT b L k))) 4 k (nI (ps b L k))), s0.2) L b := XS_fr hf1 (by decide) (by rw [hf1.1 1 (by decide)]) hP
      refine w_blk 2 (pc' := 54) (ls' := [some (.ref 1), some (.int (nI (ps b L k))), some (.int (nI k)), some (.int (nI (tend b L (ps b L k))))]) (sk' := [.int (nI (tend b L (ps b L k))), .ref 1]) (st' := ((mU (mU s0.1 3 k (nI (TT b L k))) 4 k (nI (ps b L k))), s0.2)) (fun _ h => h) ?_
      refine w_callV (As := [.ref 1, .int (nI (tend b L (ps b L k)))]) (rest := []) rfl rfl rfl (Nat.le_of_ble_eq_true rfl) (Nat.le_of_ble_eq_true rfl) (by first | exact Or.inl ⟨rfl, rfl⟩ | exact Or.inr ⟨rfl, rfl⟩) (c_behind (d + 5) L b (tend b L (ps b L k)) ((mU (mU s0.1 3 k (nI (TT b L k))) 4 k (nI (ps b L k))), s0.2) hP1 hb hL hte) ?_
      rw [show skB b L (tend b L (ps b L k)) = ps b L (k + 1) from (congrArg (skB b L) hnx).symm]
      refine w_blk 2 (pc' := 61) (ls' := [some (.ref 1), some (.int (nI (ps b L (k + 1)))), some (.int ((nI k) + 1)), some (.int (nI (tend b L (ps b L k))))]) (sk' := []) (st' := ((mU (mU s0.1 3 k (nI (TT b L k))) 4 k (nI (ps b L k))), s0.2)) (fun _ h => h) ?_
      rw [show ((nI k) + 1) = nI (k + 1) from nI_add k 1]
      refine w_blk 1 (pc' := 8) (ls' := [some (.ref 1), some (.int (nI (ps b L (k + 1)))), some (.int (nI (k + 1))), some (.int (nI (tend b L (ps b L k))))]) (sk' := []) (st' := ((mU (mU s0.1 3 k (nI (TT b L k))) 4 k (nI (ps b L k))), s0.2)) (fun _ h => h) ?_
      exact ih (k + 1) ((mU (mU s0.1 3 k (nI (TT b L k))) 4 k (nI (ps b L k))), s0.2) _ (by omega) hf1 h2 (fun j hj => if ej : j = k then (by rw [ej]; exact (w2 s0.1 (p := 3) (q := 4) (by decide) k k (nI (TT b L k)) (nI (ps b L k))).1 rfl) else (by have h9 := (w2 s0.1 (p := 3) (q := 4) (by decide) k j (nI (TT b L k)) (nI (ps b L k))).2 ej; exact ⟨h9.1.trans (hz j (by omega)).1, h9.2.trans (hz j (by omega)).2⟩))
