/-! THE LAW, in the small machine -/
set_option maxRecDepth 20000 in
theorem lc_0 {S : Nat × (Nat → Int32)} {L i : Nat} {Q : Option Value → mSt → Prop} (hS : S.1 - 1 = L) (hL : L ≤ 3072) (hi : i + 6 ≤ L) (K : ∀ s, INV s → mW (mMC mT (20)) S (mAtL P_L_law) (some .boolean) Q 982 [some (.ref 120), some (.ref 0), some (.ref 53), some (.int (nI i))] [] s) (st : mSt) (hI : INV st) : mW (mMC mT (20)) S (mAtL P_L_law) (some .boolean) Q 164 [some (.ref 120), some (.ref 0), some (.ref 53), some (.int (nI i))] [] st := by
  refine w_blk 5 (pc' := 169) (ls' := [some (.ref 120), some (.ref 0), some (.ref 53), some (.int (nI i))]) (sk' := [.int ((nI i) + 1), .ref 120, .ref 0]) (st' := st) (fun _ h => h) ?_
  rw [show ((nI i) + 1) = nI (i + 1) from nI_add i 1]
  refine w_sald (n := 0) (fs := []) rfl (by rw [hS]; exact vp_in_nI (n := i + 1) (N := L) (by omega) (by omega)) ?_
  rw [nI_clamp (show i + 1 < 2 ^ 31 by omega)]
  refine w_blk 7 (pc' := 178) (ls' := [some (.ref 120), some (.ref 0), some (.ref 53), some (.int (nI i))]) (sk' := [.int ((nI i) + 2), .ref 120, .long ((Int32.toInt64 (S.2 (i + 1))) <<< (Int32.toInt64 32 &&& 63)), .ref 0]) (st' := st) (fun _ h => h) ?_
  rw [show ((nI i) + 2) = nI (i + 2) from nI_add i 2]
  refine w_sald (n := 0) (fs := []) rfl (by rw [hS]; exact vp_in_nI (n := i + 2) (N := L) (by omega) (by omega)) ?_
  rw [nI_clamp (show i + 2 < 2 ^ 31 by omega)]
  refine w_blk 8 (pc' := 189) (ls' := [some (.ref 120), some (.ref 0), some (.ref 53), some (.int (nI i))]) (sk' := [.int ((nI i) + 3), .ref 120, .long (((Int32.toInt64 (S.2 (i + 1))) <<< (Int32.toInt64 32 &&& 63)) ||| ((Int32.toInt64 (S.2 (i + 2))) &&& 4294967295)), .ref 0]) (st' := st) (fun _ h => h) ?_
  rw [show ((nI i) + 3) = nI (i + 3) from nI_add i 3]
  refine w_sald (n := 0) (fs := []) rfl (by rw [hS]; exact vp_in_nI (n := i + 3) (N := L) (by omega) (by omega)) ?_
  rw [nI_clamp (show i + 3 < 2 ^ 31 by omega)]
  obtain ⟨r, s1, s2, h1, h2, hI2⟩ := k_type (((Int32.toInt64 (S.2 (i + 1))) <<< (Int32.toInt64 32 &&& 63)) ||| ((Int32.toInt64 (S.2 (i + 2))) &&& 4294967295)) (S.2 (i + 3)) st hI
  refine w_callV (As := [.ref 0, .long (((Int32.toInt64 (S.2 (i + 1))) <<< (Int32.toInt64 32 &&& 63)) ||| ((Int32.toInt64 (S.2 (i + 2))) &&& 4294967295)), .int (S.2 (i + 3))]) (rest := []) rfl rfl rfl (Nat.le_of_ble_eq_true rfl) (Nat.le_of_ble_eq_true rfl) (by first | exact Or.inl ⟨rfl, rfl⟩ | exact Or.inr ⟨rfl, rfl⟩) h1 ?_
  refine w_blk 5 (pc' := 198) (ls' := [some (.ref 120), some (.ref 0), some (.ref 53), some (.int (nI i))]) (sk' := [.int ((nI i) + 1), .ref 120, .ref 53, .int r]) (st' := s1) (fun _ h => h) ?_
  rw [show ((nI i) + 1) = nI (i + 1) from nI_add i 1]
  refine w_sald (n := 0) (fs := []) rfl (by rw [hS]; exact vp_in_nI (n := i + 1) (N := L) (by omega) (by omega)) ?_
  rw [nI_clamp (show i + 1 < 2 ^ 31 by omega)]
  refine w_blk 7 (pc' := 207) (ls' := [some (.ref 120), some (.ref 0), some (.ref 53), some (.int (nI i))]) (sk' := [.int ((nI i) + 2), .ref 120, .long ((Int32.toInt64 (S.2 (i + 1))) <<< (Int32.toInt64 32 &&& 63)), .ref 53, .int r]) (st' := s1) (fun _ h => h) ?_
  rw [show ((nI i) + 2) = nI (i + 2) from nI_add i 2]
  refine w_sald (n := 0) (fs := []) rfl (by rw [hS]; exact vp_in_nI (n := i + 2) (N := L) (by omega) (by omega)) ?_
  rw [nI_clamp (show i + 2 < 2 ^ 31 by omega)]
  refine w_blk 8 (pc' := 218) (ls' := [some (.ref 120), some (.ref 0), some (.ref 53), some (.int (nI i))]) (sk' := [.int ((nI i) + 3), .ref 120, .long (((Int32.toInt64 (S.2 (i + 1))) <<< (Int32.toInt64 32 &&& 63)) ||| ((Int32.toInt64 (S.2 (i + 2))) &&& 4294967295)), .ref 53, .int r]) (st' := s1) (fun _ h => h) ?_
  rw [show ((nI i) + 3) = nI (i + 3) from nI_add i 3]
  refine w_sald (n := 0) (fs := []) rfl (by rw [hS]; exact vp_in_nI (n := i + 3) (N := L) (by omega) (by omega)) ?_
  rw [nI_clamp (show i + 3 < 2 ^ 31 by omega)]
  refine w_callV (As := [.ref 53, .long (((Int32.toInt64 (S.2 (i + 1))) <<< (Int32.toInt64 32 &&& 63)) ||| ((Int32.toInt64 (S.2 (i + 2))) &&& 4294967295)), .int (S.2 (i + 3))]) (rest := [.int r]) rfl rfl rfl (Nat.le_of_ble_eq_true rfl) (Nat.le_of_ble_eq_true rfl) (by first | exact Or.inl ⟨rfl, rfl⟩ | exact Or.inr ⟨rfl, rfl⟩) h2 ?_
  refine w_cmp_eq rfl (fun _ => ?_) (fun hno => absurd rfl hno)
  exact K s2 hI2
set_option maxRecDepth 20000 in
theorem lc_1 {S : Nat × (Nat → Int32)} {L i : Nat} {Q : Option Value → mSt → Prop} (hS : S.1 - 1 = L) (hL : L ≤ 3072) (hi : i + 6 ≤ L) (K : ∀ s, INV s → mW (mMC mT (20)) S (mAtL P_L_law) (some .boolean) Q 982 [some (.ref 120), some (.ref 0), some (.ref 53), some (.int (nI i))] [] s) (st : mSt) (hI : INV st) : mW (mMC mT (20)) S (mAtL P_L_law) (some .boolean) Q 227 [some (.ref 120), some (.ref 0), some (.ref 53), some (.int (nI i))] [] st := by
  refine w_blk 1 (pc' := 228) (ls' := [some (.ref 120), some (.ref 0), some (.ref 53), some (.int (nI i))]) (sk' := [.ref 0]) (st' := st) (fun _ h => h) ?_
  obtain ⟨r, s1, s2, h1, h2, hI2⟩ := k_clear st hI
  refine w_callV (As := [.ref 0]) (rest := []) rfl rfl rfl (Nat.le_of_ble_eq_true rfl) (Nat.le_of_ble_eq_true rfl) (by first | exact Or.inl ⟨rfl, rfl⟩ | exact Or.inr ⟨rfl, rfl⟩) h1 ?_
  refine w_blk 1 (pc' := 232) (ls' := [some (.ref 120), some (.ref 0), some (.ref 53), some (.int (nI i))]) (sk' := [.ref 53, .int r]) (st' := s1) (fun _ h => h) ?_
  refine w_callV (As := [.ref 53]) (rest := [.int r]) rfl rfl rfl (Nat.le_of_ble_eq_true rfl) (Nat.le_of_ble_eq_true rfl) (by first | exact Or.inl ⟨rfl, rfl⟩ | exact Or.inr ⟨rfl, rfl⟩) h2 ?_
  refine w_cmp_eq rfl (fun _ => ?_) (fun hno => absurd rfl hno)
  exact K s2 hI2
set_option maxRecDepth 20000 in
theorem lc_2 {S : Nat × (Nat → Int32)} {L i : Nat} {Q : Option Value → mSt → Prop} (hS : S.1 - 1 = L) (hL : L ≤ 3072) (hi : i + 6 ≤ L) (K : ∀ s, INV s → mW (mMC mT (20)) S (mAtL P_L_law) (some .boolean) Q 982 [some (.ref 120), some (.ref 0), some (.ref 53), some (.int (nI i))] [] s) (st : mSt) (hI : INV st) : mW (mMC mT (20)) S (mAtL P_L_law) (some .boolean) Q 240 [some (.ref 120), some (.ref 0), some (.ref 53), some (.int (nI i))] [] st := by
  refine w_blk 1 (pc' := 241) (ls' := [some (.ref 120), some (.ref 0), some (.ref 53), some (.int (nI i))]) (sk' := [.ref 0]) (st' := st) (fun _ h => h) ?_
  obtain ⟨r, s1, s2, h1, h2, hI2⟩ := k_gang st hI
  refine w_callV (As := [.ref 0]) (rest := []) rfl rfl rfl (Nat.le_of_ble_eq_true rfl) (Nat.le_of_ble_eq_true rfl) (by first | exact Or.inl ⟨rfl, rfl⟩ | exact Or.inr ⟨rfl, rfl⟩) h1 ?_
  refine w_blk 1 (pc' := 245) (ls' := [some (.ref 120), some (.ref 0), some (.ref 53), some (.int (nI i))]) (sk' := [.ref 53, .int r]) (st' := s1) (fun _ h => h) ?_
  refine w_callV (As := [.ref 53]) (rest := [.int r]) rfl rfl rfl (Nat.le_of_ble_eq_true rfl) (Nat.le_of_ble_eq_true rfl) (by first | exact Or.inl ⟨rfl, rfl⟩ | exact Or.inr ⟨rfl, rfl⟩) h2 ?_
  refine w_cmp_eq rfl (fun _ => ?_) (fun hno => absurd rfl hno)
  exact K s2 hI2
set_option maxRecDepth 20000 in
theorem lc_3 {S : Nat × (Nat → Int32)} {L i : Nat} {Q : Option Value → mSt → Prop} (hS : S.1 - 1 = L) (hL : L ≤ 3072) (hi : i + 6 ≤ L) (K : ∀ s, INV s → mW (mMC mT (20)) S (mAtL P_L_law) (some .boolean) Q 982 [some (.ref 120), some (.ref 0), some (.ref 53), some (.int (nI i))] [] s) (st : mSt) (hI : INV st) : mW (mMC mT (20)) S (mAtL P_L_law) (some .boolean) Q 253 [some (.ref 120), some (.ref 0), some (.ref 53), some (.int (nI i))] [] st := by
  refine w_blk 5 (pc' := 258) (ls' := [some (.ref 120), some (.ref 0), some (.ref 53), some (.int (nI i))]) (sk' := [.int ((nI i) + 1), .ref 120, .ref 0]) (st' := st) (fun _ h => h) ?_
  rw [show ((nI i) + 1) = nI (i + 1) from nI_add i 1]
  refine w_sald (n := 0) (fs := []) rfl (by rw [hS]; exact vp_in_nI (n := i + 1) (N := L) (by omega) (by omega)) ?_
  rw [nI_clamp (show i + 1 < 2 ^ 31 by omega)]
  refine w_blk 4 (pc' := 263) (ls' := [some (.ref 120), some (.ref 0), some (.ref 53), some (.int (nI i))]) (sk' := [.int ((nI i) + 2), .ref 120, .int (S.2 (i + 1)), .ref 0]) (st' := st) (fun _ h => h) ?_
  rw [show ((nI i) + 2) = nI (i + 2) from nI_add i 2]
  refine w_sald (n := 0) (fs := []) rfl (by rw [hS]; exact vp_in_nI (n := i + 2) (N := L) (by omega) (by omega)) ?_
  rw [nI_clamp (show i + 2 < 2 ^ 31 by omega)]
  obtain ⟨r, s1, s2, h1, h2, hI2⟩ := k_digger (S.2 (i + 1)) (S.2 (i + 2)) st hI
  refine w_callV (As := [.ref 0, .int (S.2 (i + 1)), .int (S.2 (i + 2))]) (rest := []) rfl rfl rfl (Nat.le_of_ble_eq_true rfl) (Nat.le_of_ble_eq_true rfl) (by first | exact Or.inl ⟨rfl, rfl⟩ | exact Or.inr ⟨rfl, rfl⟩) h1 ?_
  refine w_blk 5 (pc' := 272) (ls' := [some (.ref 120), some (.ref 0), some (.ref 53), some (.int (nI i))]) (sk' := [.int ((nI i) + 1), .ref 120, .ref 53, .int r]) (st' := s1) (fun _ h => h) ?_
  rw [show ((nI i) + 1) = nI (i + 1) from nI_add i 1]
  refine w_sald (n := 0) (fs := []) rfl (by rw [hS]; exact vp_in_nI (n := i + 1) (N := L) (by omega) (by omega)) ?_
  rw [nI_clamp (show i + 1 < 2 ^ 31 by omega)]
  refine w_blk 4 (pc' := 277) (ls' := [some (.ref 120), some (.ref 0), some (.ref 53), some (.int (nI i))]) (sk' := [.int ((nI i) + 2), .ref 120, .int (S.2 (i + 1)), .ref 53, .int r]) (st' := s1) (fun _ h => h) ?_
  rw [show ((nI i) + 2) = nI (i + 2) from nI_add i 2]
  refine w_sald (n := 0) (fs := []) rfl (by rw [hS]; exact vp_in_nI (n := i + 2) (N := L) (by omega) (by omega)) ?_
  rw [nI_clamp (show i + 2 < 2 ^ 31 by omega)]
  refine w_callV (As := [.ref 53, .int (S.2 (i + 1)), .int (S.2 (i + 2))]) (rest := [.int r]) rfl rfl rfl (Nat.le_of_ble_eq_true rfl) (Nat.le_of_ble_eq_true rfl) (by first | exact Or.inl ⟨rfl, rfl⟩ | exact Or.inr ⟨rfl, rfl⟩) h2 ?_
  refine w_cmp_eq rfl (fun _ => ?_) (fun hno => absurd rfl hno)
  exact K s2 hI2
set_option maxRecDepth 20000 in
theorem lc_4 {S : Nat × (Nat → Int32)} {L i : Nat} {Q : Option Value → mSt → Prop} (hS : S.1 - 1 = L) (hL : L ≤ 3072) (hi : i + 6 ≤ L) (K : ∀ s, INV s → mW (mMC mT (20)) S (mAtL P_L_law) (some .boolean) Q 982 [some (.ref 120), some (.ref 0), some (.ref 53), some (.int (nI i))] [] s) (st : mSt) (hI : INV st) : mW (mMC mT (20)) S (mAtL P_L_law) (some .boolean) Q 286 [some (.ref 120), some (.ref 0), some (.ref 53), some (.int (nI i))] [] st := by
  refine w_blk 5 (pc' := 291) (ls' := [some (.ref 120), some (.ref 0), some (.ref 53), some (.int (nI i))]) (sk' := [.int ((nI i) + 1), .ref 120, .ref 0]) (st' := st) (fun _ h => h) ?_
  rw [show ((nI i) + 1) = nI (i + 1) from nI_add i 1]
  refine w_sald (n := 0) (fs := []) rfl (by rw [hS]; exact vp_in_nI (n := i + 1) (N := L) (by omega) (by omega)) ?_
  rw [nI_clamp (show i + 1 < 2 ^ 31 by omega)]
  refine w_blk 4 (pc' := 296) (ls' := [some (.ref 120), some (.ref 0), some (.ref 53), some (.int (nI i))]) (sk' := [.int ((nI i) + 2), .ref 120, .int (S.2 (i + 1)), .ref 0]) (st' := st) (fun _ h => h) ?_
  rw [show ((nI i) + 2) = nI (i + 2) from nI_add i 2]
  refine w_sald (n := 0) (fs := []) rfl (by rw [hS]; exact vp_in_nI (n := i + 2) (N := L) (by omega) (by omega)) ?_
  rw [nI_clamp (show i + 2 < 2 ^ 31 by omega)]
  obtain ⟨r, s1, s2, h1, h2, hI2⟩ := k_spade (S.2 (i + 1)) (S.2 (i + 2)) st hI
  refine w_callV (As := [.ref 0, .int (S.2 (i + 1)), .int (S.2 (i + 2))]) (rest := []) rfl rfl rfl (Nat.le_of_ble_eq_true rfl) (Nat.le_of_ble_eq_true rfl) (by first | exact Or.inl ⟨rfl, rfl⟩ | exact Or.inr ⟨rfl, rfl⟩) h1 ?_
  refine w_blk 5 (pc' := 305) (ls' := [some (.ref 120), some (.ref 0), some (.ref 53), some (.int (nI i))]) (sk' := [.int ((nI i) + 1), .ref 120, .ref 53, .int r]) (st' := s1) (fun _ h => h) ?_
  rw [show ((nI i) + 1) = nI (i + 1) from nI_add i 1]
  refine w_sald (n := 0) (fs := []) rfl (by rw [hS]; exact vp_in_nI (n := i + 1) (N := L) (by omega) (by omega)) ?_
  rw [nI_clamp (show i + 1 < 2 ^ 31 by omega)]
  refine w_blk 4 (pc' := 310) (ls' := [some (.ref 120), some (.ref 0), some (.ref 53), some (.int (nI i))]) (sk' := [.int ((nI i) + 2), .ref 120, .int (S.2 (i + 1)), .ref 53, .int r]) (st' := s1) (fun _ h => h) ?_
  rw [show ((nI i) + 2) = nI (i + 2) from nI_add i 2]
  refine w_sald (n := 0) (fs := []) rfl (by rw [hS]; exact vp_in_nI (n := i + 2) (N := L) (by omega) (by omega)) ?_
  rw [nI_clamp (show i + 2 < 2 ^ 31 by omega)]
  refine w_callV (As := [.ref 53, .int (S.2 (i + 1)), .int (S.2 (i + 2))]) (rest := [.int r]) rfl rfl rfl (Nat.le_of_ble_eq_true rfl) (Nat.le_of_ble_eq_true rfl) (by first | exact Or.inl ⟨rfl, rfl⟩ | exact Or.inr ⟨rfl, rfl⟩) h2 ?_
  refine w_cmp_eq rfl (fun _ => ?_) (fun hno => absurd rfl hno)
  exact K s2 hI2
set_option maxRecDepth 20000 in
theorem lc_5 {S : Nat × (Nat → Int32)} {L i : Nat} {Q : Option Value → mSt → Prop} (hS : S.1 - 1 = L) (hL : L ≤ 3072) (hi : i + 6 ≤ L) (K : ∀ s, INV s → mW (mMC mT (20)) S (mAtL P_L_law) (some .boolean) Q 982 [some (.ref 120), some (.ref 0), some (.ref 53), some (.int (nI i))] [] s) (st : mSt) (hI : INV st) : mW (mMC mT (20)) S (mAtL P_L_law) (some .boolean) Q 319 [some (.ref 120), some (.ref 0), some (.ref 53), some (.int (nI i))] [] st := by
  refine w_blk 5 (pc' := 324) (ls' := [some (.ref 120), some (.ref 0), some (.ref 53), some (.int (nI i))]) (sk' := [.int ((nI i) + 1), .ref 120, .ref 0]) (st' := st) (fun _ h => h) ?_
  rw [show ((nI i) + 1) = nI (i + 1) from nI_add i 1]
  refine w_sald (n := 0) (fs := []) rfl (by rw [hS]; exact vp_in_nI (n := i + 1) (N := L) (by omega) (by omega)) ?_
  rw [nI_clamp (show i + 1 < 2 ^ 31 by omega)]
  refine w_blk 4 (pc' := 329) (ls' := [some (.ref 120), some (.ref 0), some (.ref 53), some (.int (nI i))]) (sk' := [.int ((nI i) + 2), .ref 120, .int (S.2 (i + 1)), .ref 0]) (st' := st) (fun _ h => h) ?_
  rw [show ((nI i) + 2) = nI (i + 2) from nI_add i 2]
  refine w_sald (n := 0) (fs := []) rfl (by rw [hS]; exact vp_in_nI (n := i + 2) (N := L) (by omega) (by omega)) ?_
  rw [nI_clamp (show i + 2 < 2 ^ 31 by omega)]
  obtain ⟨r, s1, s2, h1, h2, hI2⟩ := k_yard (S.2 (i + 1)) (S.2 (i + 2)) st hI
  refine w_callV (As := [.ref 0, .int (S.2 (i + 1)), .int (S.2 (i + 2))]) (rest := []) rfl rfl rfl (Nat.le_of_ble_eq_true rfl) (Nat.le_of_ble_eq_true rfl) (by first | exact Or.inl ⟨rfl, rfl⟩ | exact Or.inr ⟨rfl, rfl⟩) h1 ?_
  refine w_blk 5 (pc' := 338) (ls' := [some (.ref 120), some (.ref 0), some (.ref 53), some (.int (nI i))]) (sk' := [.int ((nI i) + 1), .ref 120, .ref 53, .int r]) (st' := s1) (fun _ h => h) ?_
  rw [show ((nI i) + 1) = nI (i + 1) from nI_add i 1]
  refine w_sald (n := 0) (fs := []) rfl (by rw [hS]; exact vp_in_nI (n := i + 1) (N := L) (by omega) (by omega)) ?_
  rw [nI_clamp (show i + 1 < 2 ^ 31 by omega)]
  refine w_blk 4 (pc' := 343) (ls' := [some (.ref 120), some (.ref 0), some (.ref 53), some (.int (nI i))]) (sk' := [.int ((nI i) + 2), .ref 120, .int (S.2 (i + 1)), .ref 53, .int r]) (st' := s1) (fun _ h => h) ?_
  rw [show ((nI i) + 2) = nI (i + 2) from nI_add i 2]
  refine w_sald (n := 0) (fs := []) rfl (by rw [hS]; exact vp_in_nI (n := i + 2) (N := L) (by omega) (by omega)) ?_
  rw [nI_clamp (show i + 2 < 2 ^ 31 by omega)]
  refine w_callV (As := [.ref 53, .int (S.2 (i + 1)), .int (S.2 (i + 2))]) (rest := [.int r]) rfl rfl rfl (Nat.le_of_ble_eq_true rfl) (Nat.le_of_ble_eq_true rfl) (by first | exact Or.inl ⟨rfl, rfl⟩ | exact Or.inr ⟨rfl, rfl⟩) h2 ?_
  refine w_cmp_eq rfl (fun _ => ?_) (fun hno => absurd rfl hno)
  exact K s2 hI2
set_option maxRecDepth 20000 in
theorem lc_6 {S : Nat × (Nat → Int32)} {L i : Nat} {Q : Option Value → mSt → Prop} (hS : S.1 - 1 = L) (hL : L ≤ 3072) (hi : i + 6 ≤ L) (K : ∀ s, INV s → mW (mMC mT (20)) S (mAtL P_L_law) (some .boolean) Q 982 [some (.ref 120), some (.ref 0), some (.ref 53), some (.int (nI i))] [] s) (st : mSt) (hI : INV st) : mW (mMC mT (20)) S (mAtL P_L_law) (some .boolean) Q 352 [some (.ref 120), some (.ref 0), some (.ref 53), some (.int (nI i))] [] st := by
  refine w_blk 5 (pc' := 357) (ls' := [some (.ref 120), some (.ref 0), some (.ref 53), some (.int (nI i))]) (sk' := [.int ((nI i) + 1), .ref 120, .ref 0]) (st' := st) (fun _ h => h) ?_
  rw [show ((nI i) + 1) = nI (i + 1) from nI_add i 1]
  refine w_sald (n := 0) (fs := []) rfl (by rw [hS]; exact vp_in_nI (n := i + 1) (N := L) (by omega) (by omega)) ?_
  rw [nI_clamp (show i + 1 < 2 ^ 31 by omega)]
  refine w_blk 4 (pc' := 362) (ls' := [some (.ref 120), some (.ref 0), some (.ref 53), some (.int (nI i))]) (sk' := [.int ((nI i) + 2), .ref 120, .int (S.2 (i + 1)), .ref 0]) (st' := st) (fun _ h => h) ?_
  rw [show ((nI i) + 2) = nI (i + 2) from nI_add i 2]
  refine w_sald (n := 0) (fs := []) rfl (by rw [hS]; exact vp_in_nI (n := i + 2) (N := L) (by omega) (by omega)) ?_
  rw [nI_clamp (show i + 2 < 2 ^ 31 by omega)]
  obtain ⟨r, s1, s2, h1, h2, hI2⟩ := k_may (S.2 (i + 1)) (S.2 (i + 2)) st hI
  refine w_callV (As := [.ref 0, .int (S.2 (i + 1)), .int (S.2 (i + 2))]) (rest := []) rfl rfl rfl (Nat.le_of_ble_eq_true rfl) (Nat.le_of_ble_eq_true rfl) (by first | exact Or.inl ⟨rfl, rfl⟩ | exact Or.inr ⟨rfl, rfl⟩) h1 ?_
  refine w_blk 5 (pc' := 371) (ls' := [some (.ref 120), some (.ref 0), some (.ref 53), some (.int (nI i))]) (sk' := [.int ((nI i) + 1), .ref 120, .ref 53, .int r]) (st' := s1) (fun _ h => h) ?_
  rw [show ((nI i) + 1) = nI (i + 1) from nI_add i 1]
  refine w_sald (n := 0) (fs := []) rfl (by rw [hS]; exact vp_in_nI (n := i + 1) (N := L) (by omega) (by omega)) ?_
  rw [nI_clamp (show i + 1 < 2 ^ 31 by omega)]
  refine w_blk 4 (pc' := 376) (ls' := [some (.ref 120), some (.ref 0), some (.ref 53), some (.int (nI i))]) (sk' := [.int ((nI i) + 2), .ref 120, .int (S.2 (i + 1)), .ref 53, .int r]) (st' := s1) (fun _ h => h) ?_
  rw [show ((nI i) + 2) = nI (i + 2) from nI_add i 2]
  refine w_sald (n := 0) (fs := []) rfl (by rw [hS]; exact vp_in_nI (n := i + 2) (N := L) (by omega) (by omega)) ?_
  rw [nI_clamp (show i + 2 < 2 ^ 31 by omega)]
  refine w_callV (As := [.ref 53, .int (S.2 (i + 1)), .int (S.2 (i + 2))]) (rest := [.int r]) rfl rfl rfl (Nat.le_of_ble_eq_true rfl) (Nat.le_of_ble_eq_true rfl) (by first | exact Or.inl ⟨rfl, rfl⟩ | exact Or.inr ⟨rfl, rfl⟩) h2 ?_
  refine w_cmp_eq rfl (fun _ => ?_) (fun hno => absurd rfl hno)
  exact K s2 hI2
set_option maxRecDepth 20000 in
theorem lc_7 {S : Nat × (Nat → Int32)} {L i : Nat} {Q : Option Value → mSt → Prop} (hS : S.1 - 1 = L) (hL : L ≤ 3072) (hi : i + 6 ≤ L) (K : ∀ s, INV s → mW (mMC mT (20)) S (mAtL P_L_law) (some .boolean) Q 982 [some (.ref 120), some (.ref 0), some (.ref 53), some (.int (nI i))] [] s) (st : mSt) (hI : INV st) : mW (mMC mT (20)) S (mAtL P_L_law) (some .boolean) Q 385 [some (.ref 120), some (.ref 0), some (.ref 53), some (.int (nI i))] [] st := by
  refine w_blk 5 (pc' := 390) (ls' := [some (.ref 120), some (.ref 0), some (.ref 53), some (.int (nI i))]) (sk' := [.int ((nI i) + 1), .ref 120, .ref 0]) (st' := st) (fun _ h => h) ?_
  rw [show ((nI i) + 1) = nI (i + 1) from nI_add i 1]
  refine w_sald (n := 0) (fs := []) rfl (by rw [hS]; exact vp_in_nI (n := i + 1) (N := L) (by omega) (by omega)) ?_
  rw [nI_clamp (show i + 1 < 2 ^ 31 by omega)]
  refine w_blk 4 (pc' := 395) (ls' := [some (.ref 120), some (.ref 0), some (.ref 53), some (.int (nI i))]) (sk' := [.int ((nI i) + 2), .ref 120, .int (S.2 (i + 1)), .ref 0]) (st' := st) (fun _ h => h) ?_
  rw [show ((nI i) + 2) = nI (i + 2) from nI_add i 2]
  refine w_sald (n := 0) (fs := []) rfl (by rw [hS]; exact vp_in_nI (n := i + 2) (N := L) (by omega) (by omega)) ?_
  rw [nI_clamp (show i + 2 < 2 ^ 31 by omega)]
  obtain ⟨r, s1, s2, h1, h2, hI2⟩ := k_throwWith (S.2 (i + 1)) (S.2 (i + 2)) st hI
  refine w_callV (As := [.ref 0, .int (S.2 (i + 1)), .int (S.2 (i + 2))]) (rest := []) rfl rfl rfl (Nat.le_of_ble_eq_true rfl) (Nat.le_of_ble_eq_true rfl) (by first | exact Or.inl ⟨rfl, rfl⟩ | exact Or.inr ⟨rfl, rfl⟩) h1 ?_
  refine w_blk 5 (pc' := 404) (ls' := [some (.ref 120), some (.ref 0), some (.ref 53), some (.int (nI i))]) (sk' := [.int ((nI i) + 1), .ref 120, .ref 53, .int r]) (st' := s1) (fun _ h => h) ?_
  rw [show ((nI i) + 1) = nI (i + 1) from nI_add i 1]
  refine w_sald (n := 0) (fs := []) rfl (by rw [hS]; exact vp_in_nI (n := i + 1) (N := L) (by omega) (by omega)) ?_
  rw [nI_clamp (show i + 1 < 2 ^ 31 by omega)]
  refine w_blk 4 (pc' := 409) (ls' := [some (.ref 120), some (.ref 0), some (.ref 53), some (.int (nI i))]) (sk' := [.int ((nI i) + 2), .ref 120, .int (S.2 (i + 1)), .ref 53, .int r]) (st' := s1) (fun _ h => h) ?_
  rw [show ((nI i) + 2) = nI (i + 2) from nI_add i 2]
  refine w_sald (n := 0) (fs := []) rfl (by rw [hS]; exact vp_in_nI (n := i + 2) (N := L) (by omega) (by omega)) ?_
  rw [nI_clamp (show i + 2 < 2 ^ 31 by omega)]
  refine w_callV (As := [.ref 53, .int (S.2 (i + 1)), .int (S.2 (i + 2))]) (rest := [.int r]) rfl rfl rfl (Nat.le_of_ble_eq_true rfl) (Nat.le_of_ble_eq_true rfl) (by first | exact Or.inl ⟨rfl, rfl⟩ | exact Or.inr ⟨rfl, rfl⟩) h2 ?_
  refine w_cmp_eq rfl (fun _ => ?_) (fun hno => absurd rfl hno)
  exact K s2 hI2
set_option maxRecDepth 20000 in
theorem lc_8 {S : Nat × (Nat → Int32)} {L i : Nat} {Q : Option Value → mSt → Prop} (hS : S.1 - 1 = L) (hL : L ≤ 3072) (hi : i + 6 ≤ L) (K : ∀ s, INV s → mW (mMC mT (20)) S (mAtL P_L_law) (some .boolean) Q 982 [some (.ref 120), some (.ref 0), some (.ref 53), some (.int (nI i))] [] s) (st : mSt) (hI : INV st) : mW (mMC mT (20)) S (mAtL P_L_law) (some .boolean) Q 418 [some (.ref 120), some (.ref 0), some (.ref 53), some (.int (nI i))] [] st := by
  refine w_blk 1 (pc' := 419) (ls' := [some (.ref 120), some (.ref 0), some (.ref 53), some (.int (nI i))]) (sk' := [.ref 0]) (st' := st) (fun _ h => h) ?_
  obtain ⟨r, s1, s2, h1, h2, hI2⟩ := k_ends st hI
  refine w_callV (As := [.ref 0]) (rest := []) rfl rfl rfl (Nat.le_of_ble_eq_true rfl) (Nat.le_of_ble_eq_true rfl) (by first | exact Or.inl ⟨rfl, rfl⟩ | exact Or.inr ⟨rfl, rfl⟩) h1 ?_
  refine w_blk 1 (pc' := 423) (ls' := [some (.ref 120), some (.ref 0), some (.ref 53), some (.int (nI i))]) (sk' := [.ref 53, .int r]) (st' := s1) (fun _ h => h) ?_
  refine w_callV (As := [.ref 53]) (rest := [.int r]) rfl rfl rfl (Nat.le_of_ble_eq_true rfl) (Nat.le_of_ble_eq_true rfl) (by first | exact Or.inl ⟨rfl, rfl⟩ | exact Or.inr ⟨rfl, rfl⟩) h2 ?_
  refine w_cmp_eq rfl (fun _ => ?_) (fun hno => absurd rfl hno)
  exact K s2 hI2
set_option maxRecDepth 20000 in
theorem lc_9 {S : Nat × (Nat → Int32)} {L i : Nat} {Q : Option Value → mSt → Prop} (hS : S.1 - 1 = L) (hL : L ≤ 3072) (hi : i + 6 ≤ L) (K : ∀ s, INV s → mW (mMC mT (20)) S (mAtL P_L_law) (some .boolean) Q 982 [some (.ref 120), some (.ref 0), some (.ref 53), some (.int (nI i))] [] s) (st : mSt) (hI : INV st) : mW (mMC mT (20)) S (mAtL P_L_law) (some .boolean) Q 431 [some (.ref 120), some (.ref 0), some (.ref 53), some (.int (nI i))] [] st := by
  refine w_blk 5 (pc' := 436) (ls' := [some (.ref 120), some (.ref 0), some (.ref 53), some (.int (nI i))]) (sk' := [.int ((nI i) + 1), .ref 120, .ref 0]) (st' := st) (fun _ h => h) ?_
  rw [show ((nI i) + 1) = nI (i + 1) from nI_add i 1]
  refine w_sald (n := 0) (fs := []) rfl (by rw [hS]; exact vp_in_nI (n := i + 1) (N := L) (by omega) (by omega)) ?_
  rw [nI_clamp (show i + 1 < 2 ^ 31 by omega)]
  obtain ⟨r, s1, s2, h1, h2, hI2⟩ := k_breaks (S.2 (i + 1)) st hI
  refine w_callV (As := [.ref 0, .int (S.2 (i + 1))]) (rest := []) rfl rfl rfl (Nat.le_of_ble_eq_true rfl) (Nat.le_of_ble_eq_true rfl) (by first | exact Or.inl ⟨rfl, rfl⟩ | exact Or.inr ⟨rfl, rfl⟩) h1 ?_
  refine w_blk 5 (pc' := 445) (ls' := [some (.ref 120), some (.ref 0), some (.ref 53), some (.int (nI i))]) (sk' := [.int ((nI i) + 1), .ref 120, .ref 53, .int r]) (st' := s1) (fun _ h => h) ?_
  rw [show ((nI i) + 1) = nI (i + 1) from nI_add i 1]
  refine w_sald (n := 0) (fs := []) rfl (by rw [hS]; exact vp_in_nI (n := i + 1) (N := L) (by omega) (by omega)) ?_
  rw [nI_clamp (show i + 1 < 2 ^ 31 by omega)]
  refine w_callV (As := [.ref 53, .int (S.2 (i + 1))]) (rest := [.int r]) rfl rfl rfl (Nat.le_of_ble_eq_true rfl) (Nat.le_of_ble_eq_true rfl) (by first | exact Or.inl ⟨rfl, rfl⟩ | exact Or.inr ⟨rfl, rfl⟩) h2 ?_
  refine w_cmp_eq rfl (fun _ => ?_) (fun hno => absurd rfl hno)
  exact K s2 hI2
set_option maxRecDepth 20000 in
theorem lc_10 {S : Nat × (Nat → Int32)} {L i : Nat} {Q : Option Value → mSt → Prop} (hS : S.1 - 1 = L) (hL : L ≤ 3072) (hi : i + 6 ≤ L) (K : ∀ s, INV s → mW (mMC mT (20)) S (mAtL P_L_law) (some .boolean) Q 982 [some (.ref 120), some (.ref 0), some (.ref 53), some (.int (nI i))] [] s) (st : mSt) (hI : INV st) : mW (mMC mT (20)) S (mAtL P_L_law) (some .boolean) Q 454 [some (.ref 120), some (.ref 0), some (.ref 53), some (.int (nI i))] [] st := by
  refine w_blk 5 (pc' := 459) (ls' := [some (.ref 120), some (.ref 0), some (.ref 53), some (.int (nI i))]) (sk' := [.int ((nI i) + 1), .ref 120, .ref 0]) (st' := st) (fun _ h => h) ?_
  rw [show ((nI i) + 1) = nI (i + 1) from nI_add i 1]
  refine w_sald (n := 0) (fs := []) rfl (by rw [hS]; exact vp_in_nI (n := i + 1) (N := L) (by omega) (by omega)) ?_
  rw [nI_clamp (show i + 1 < 2 ^ 31 by omega)]
  obtain ⟨r, s1, s2, h1, h2, hI2⟩ := k_now (S.2 (i + 1)) st hI
  refine w_callV (As := [.ref 0, .int (S.2 (i + 1))]) (rest := []) rfl rfl rfl (Nat.le_of_ble_eq_true rfl) (Nat.le_of_ble_eq_true rfl) (by first | exact Or.inl ⟨rfl, rfl⟩ | exact Or.inr ⟨rfl, rfl⟩) h1 ?_
  refine w_blk 5 (pc' := 468) (ls' := [some (.ref 120), some (.ref 0), some (.ref 53), some (.int (nI i))]) (sk' := [.int ((nI i) + 1), .ref 120, .ref 53, .int r]) (st' := s1) (fun _ h => h) ?_
  rw [show ((nI i) + 1) = nI (i + 1) from nI_add i 1]
  refine w_sald (n := 0) (fs := []) rfl (by rw [hS]; exact vp_in_nI (n := i + 1) (N := L) (by omega) (by omega)) ?_
  rw [nI_clamp (show i + 1 < 2 ^ 31 by omega)]
  refine w_callV (As := [.ref 53, .int (S.2 (i + 1))]) (rest := [.int r]) rfl rfl rfl (Nat.le_of_ble_eq_true rfl) (Nat.le_of_ble_eq_true rfl) (by first | exact Or.inl ⟨rfl, rfl⟩ | exact Or.inr ⟨rfl, rfl⟩) h2 ?_
  refine w_cmp_eq rfl (fun _ => ?_) (fun hno => absurd rfl hno)
  exact K s2 hI2
set_option maxRecDepth 20000 in
theorem lc_11 {S : Nat × (Nat → Int32)} {L i : Nat} {Q : Option Value → mSt → Prop} (hS : S.1 - 1 = L) (hL : L ≤ 3072) (hi : i + 6 ≤ L) (K : ∀ s, INV s → mW (mMC mT (20)) S (mAtL P_L_law) (some .boolean) Q 982 [some (.ref 120), some (.ref 0), some (.ref 53), some (.int (nI i))] [] s) (st : mSt) (hI : INV st) : mW (mMC mT (20)) S (mAtL P_L_law) (some .boolean) Q 477 [some (.ref 120), some (.ref 0), some (.ref 53), some (.int (nI i))] [] st := by
  refine w_blk 1 (pc' := 478) (ls' := [some (.ref 120), some (.ref 0), some (.ref 53), some (.int (nI i))]) (sk' := [.ref 0]) (st' := st) (fun _ h => h) ?_
  obtain ⟨r, s1, s2, h1, h2, hI2⟩ := k_anew st hI
  refine w_callV (As := [.ref 0]) (rest := []) rfl rfl rfl (Nat.le_of_ble_eq_true rfl) (Nat.le_of_ble_eq_true rfl) (by first | exact Or.inl ⟨rfl, rfl⟩ | exact Or.inr ⟨rfl, rfl⟩) h1 ?_
  refine w_blk 1 (pc' := 482) (ls' := [some (.ref 120), some (.ref 0), some (.ref 53), some (.int (nI i))]) (sk' := [.ref 53, .int r]) (st' := s1) (fun _ h => h) ?_
  refine w_callV (As := [.ref 53]) (rest := [.int r]) rfl rfl rfl (Nat.le_of_ble_eq_true rfl) (Nat.le_of_ble_eq_true rfl) (by first | exact Or.inl ⟨rfl, rfl⟩ | exact Or.inr ⟨rfl, rfl⟩) h2 ?_
  refine w_cmp_eq rfl (fun _ => ?_) (fun hno => absurd rfl hno)
  exact K s2 hI2
set_option maxRecDepth 20000 in
theorem lc_12 {S : Nat × (Nat → Int32)} {L i : Nat} {Q : Option Value → mSt → Prop} (hS : S.1 - 1 = L) (hL : L ≤ 3072) (hi : i + 6 ≤ L) (K : ∀ s, INV s → mW (mMC mT (20)) S (mAtL P_L_law) (some .boolean) Q 982 [some (.ref 120), some (.ref 0), some (.ref 53), some (.int (nI i))] [] s) (st : mSt) (hI : INV st) : mW (mMC mT (20)) S (mAtL P_L_law) (some .boolean) Q 490 [some (.ref 120), some (.ref 0), some (.ref 53), some (.int (nI i))] [] st := by
  refine w_blk 1 (pc' := 491) (ls' := [some (.ref 120), some (.ref 0), some (.ref 53), some (.int (nI i))]) (sk' := [.ref 0]) (st' := st) (fun _ h => h) ?_
  obtain ⟨r, s1, s2, h1, h2, hI2⟩ := k_longest st hI
  refine w_callV (As := [.ref 0]) (rest := []) rfl rfl rfl (Nat.le_of_ble_eq_true rfl) (Nat.le_of_ble_eq_true rfl) (by first | exact Or.inl ⟨rfl, rfl⟩ | exact Or.inr ⟨rfl, rfl⟩) h1 ?_
  refine w_blk 1 (pc' := 495) (ls' := [some (.ref 120), some (.ref 0), some (.ref 53), some (.int (nI i))]) (sk' := [.ref 53, .int r]) (st' := s1) (fun _ h => h) ?_
  refine w_callV (As := [.ref 53]) (rest := [.int r]) rfl rfl rfl (Nat.le_of_ble_eq_true rfl) (Nat.le_of_ble_eq_true rfl) (by first | exact Or.inl ⟨rfl, rfl⟩ | exact Or.inr ⟨rfl, rfl⟩) h2 ?_
  refine w_cmp_eq rfl (fun _ => ?_) (fun hno => absurd rfl hno)
  exact K s2 hI2
set_option maxRecDepth 20000 in
theorem lc_13 {S : Nat × (Nat → Int32)} {L i : Nat} {Q : Option Value → mSt → Prop} (hS : S.1 - 1 = L) (hL : L ≤ 3072) (hi : i + 6 ≤ L) (K : ∀ s, INV s → mW (mMC mT (20)) S (mAtL P_L_law) (some .boolean) Q 982 [some (.ref 120), some (.ref 0), some (.ref 53), some (.int (nI i))] [] s) (st : mSt) (hI : INV st) : mW (mMC mT (20)) S (mAtL P_L_law) (some .boolean) Q 503 [some (.ref 120), some (.ref 0), some (.ref 53), some (.int (nI i))] [] st := by
  refine w_blk 5 (pc' := 508) (ls' := [some (.ref 120), some (.ref 0), some (.ref 53), some (.int (nI i))]) (sk' := [.int ((nI i) + 1), .ref 120, .ref 0]) (st' := st) (fun _ h => h) ?_
  rw [show ((nI i) + 1) = nI (i + 1) from nI_add i 1]
  refine w_sald (n := 0) (fs := []) rfl (by rw [hS]; exact vp_in_nI (n := i + 1) (N := L) (by omega) (by omega)) ?_
  rw [nI_clamp (show i + 1 < 2 ^ 31 by omega)]
  obtain ⟨r, s1, s2, h1, h2, hI2⟩ := k_begins (S.2 (i + 1)) st hI
  refine w_callV (As := [.ref 0, .int (S.2 (i + 1))]) (rest := []) rfl rfl rfl (Nat.le_of_ble_eq_true rfl) (Nat.le_of_ble_eq_true rfl) (by first | exact Or.inl ⟨rfl, rfl⟩ | exact Or.inr ⟨rfl, rfl⟩) h1 ?_
  refine w_blk 5 (pc' := 517) (ls' := [some (.ref 120), some (.ref 0), some (.ref 53), some (.int (nI i))]) (sk' := [.int ((nI i) + 1), .ref 120, .ref 53, .int r]) (st' := s1) (fun _ h => h) ?_
  rw [show ((nI i) + 1) = nI (i + 1) from nI_add i 1]
  refine w_sald (n := 0) (fs := []) rfl (by rw [hS]; exact vp_in_nI (n := i + 1) (N := L) (by omega) (by omega)) ?_
  rw [nI_clamp (show i + 1 < 2 ^ 31 by omega)]
  refine w_callV (As := [.ref 53, .int (S.2 (i + 1))]) (rest := [.int r]) rfl rfl rfl (Nat.le_of_ble_eq_true rfl) (Nat.le_of_ble_eq_true rfl) (by first | exact Or.inl ⟨rfl, rfl⟩ | exact Or.inr ⟨rfl, rfl⟩) h2 ?_
  refine w_cmp_eq rfl (fun _ => ?_) (fun hno => absurd rfl hno)
  exact K s2 hI2
set_option maxRecDepth 20000 in
theorem lc_14 {S : Nat × (Nat → Int32)} {L i : Nat} {Q : Option Value → mSt → Prop} (hS : S.1 - 1 = L) (hL : L ≤ 3072) (hi : i + 6 ≤ L) (K : ∀ s, INV s → mW (mMC mT (20)) S (mAtL P_L_law) (some .boolean) Q 982 [some (.ref 120), some (.ref 0), some (.ref 53), some (.int (nI i))] [] s) (st : mSt) (hI : INV st) : mW (mMC mT (20)) S (mAtL P_L_law) (some .boolean) Q 526 [some (.ref 120), some (.ref 0), some (.ref 53), some (.int (nI i))] [] st := by
  refine w_blk 5 (pc' := 531) (ls' := [some (.ref 120), some (.ref 0), some (.ref 53), some (.int (nI i))]) (sk' := [.int ((nI i) + 1), .ref 120, .ref 0]) (st' := st) (fun _ h => h) ?_
  rw [show ((nI i) + 1) = nI (i + 1) from nI_add i 1]
  refine w_sald (n := 0) (fs := []) rfl (by rw [hS]; exact vp_in_nI (n := i + 1) (N := L) (by omega) (by omega)) ?_
  rw [nI_clamp (show i + 1 < 2 ^ 31 by omega)]
  obtain ⟨r, s1, s2, h1, h2, hI2⟩ := k_most (S.2 (i + 1)) st hI
  refine w_callV (As := [.ref 0, .int (S.2 (i + 1))]) (rest := []) rfl rfl rfl (Nat.le_of_ble_eq_true rfl) (Nat.le_of_ble_eq_true rfl) (by first | exact Or.inl ⟨rfl, rfl⟩ | exact Or.inr ⟨rfl, rfl⟩) h1 ?_
  refine w_blk 5 (pc' := 540) (ls' := [some (.ref 120), some (.ref 0), some (.ref 53), some (.int (nI i))]) (sk' := [.int ((nI i) + 1), .ref 120, .ref 53, .int r]) (st' := s1) (fun _ h => h) ?_
  rw [show ((nI i) + 1) = nI (i + 1) from nI_add i 1]
  refine w_sald (n := 0) (fs := []) rfl (by rw [hS]; exact vp_in_nI (n := i + 1) (N := L) (by omega) (by omega)) ?_
  rw [nI_clamp (show i + 1 < 2 ^ 31 by omega)]
  refine w_callV (As := [.ref 53, .int (S.2 (i + 1))]) (rest := [.int r]) rfl rfl rfl (Nat.le_of_ble_eq_true rfl) (Nat.le_of_ble_eq_true rfl) (by first | exact Or.inl ⟨rfl, rfl⟩ | exact Or.inr ⟨rfl, rfl⟩) h2 ?_
  refine w_cmp_eq rfl (fun _ => ?_) (fun hno => absurd rfl hno)
  exact K s2 hI2
set_option maxRecDepth 20000 in
theorem lc_15 {S : Nat × (Nat → Int32)} {L i : Nat} {Q : Option Value → mSt → Prop} (hS : S.1 - 1 = L) (hL : L ≤ 3072) (hi : i + 6 ≤ L) (K : ∀ s, INV s → mW (mMC mT (20)) S (mAtL P_L_law) (some .boolean) Q 982 [some (.ref 120), some (.ref 0), some (.ref 53), some (.int (nI i))] [] s) (st : mSt) (hI : INV st) : mW (mMC mT (20)) S (mAtL P_L_law) (some .boolean) Q 549 [some (.ref 120), some (.ref 0), some (.ref 53), some (.int (nI i))] [] st := by
  refine w_blk 5 (pc' := 554) (ls' := [some (.ref 120), some (.ref 0), some (.ref 53), some (.int (nI i))]) (sk' := [.int ((nI i) + 1), .ref 120, .ref 0]) (st' := st) (fun _ h => h) ?_
  rw [show ((nI i) + 1) = nI (i + 1) from nI_add i 1]
  refine w_sald (n := 0) (fs := []) rfl (by rw [hS]; exact vp_in_nI (n := i + 1) (N := L) (by omega) (by omega)) ?_
  rw [nI_clamp (show i + 1 < 2 ^ 31 by omega)]
  refine w_blk 4 (pc' := 559) (ls' := [some (.ref 120), some (.ref 0), some (.ref 53), some (.int (nI i))]) (sk' := [.int ((nI i) + 2), .ref 120, .int (S.2 (i + 1)), .ref 0]) (st' := st) (fun _ h => h) ?_
  rw [show ((nI i) + 2) = nI (i + 2) from nI_add i 2]
  refine w_sald (n := 0) (fs := []) rfl (by rw [hS]; exact vp_in_nI (n := i + 2) (N := L) (by omega) (by omega)) ?_
  rw [nI_clamp (show i + 2 < 2 ^ 31 by omega)]
  refine w_blk 4 (pc' := 564) (ls' := [some (.ref 120), some (.ref 0), some (.ref 53), some (.int (nI i))]) (sk' := [.int ((nI i) + 3), .ref 120, .int (S.2 (i + 2)), .int (S.2 (i + 1)), .ref 0]) (st' := st) (fun _ h => h) ?_
  rw [show ((nI i) + 3) = nI (i + 3) from nI_add i 3]
  refine w_sald (n := 0) (fs := []) rfl (by rw [hS]; exact vp_in_nI (n := i + 3) (N := L) (by omega) (by omega)) ?_
  rw [nI_clamp (show i + 3 < 2 ^ 31 by omega)]
  obtain ⟨r, s1, s2, h1, h2, hI2⟩ := k_rings (S.2 (i + 1)) (S.2 (i + 2)) (S.2 (i + 3)) st hI
  refine w_callV (As := [.ref 0, .int (S.2 (i + 1)), .int (S.2 (i + 2)), .int (S.2 (i + 3))]) (rest := []) rfl rfl rfl (Nat.le_of_ble_eq_true rfl) (Nat.le_of_ble_eq_true rfl) (by first | exact Or.inl ⟨rfl, rfl⟩ | exact Or.inr ⟨rfl, rfl⟩) h1 ?_
  refine w_blk 5 (pc' := 573) (ls' := [some (.ref 120), some (.ref 0), some (.ref 53), some (.int (nI i))]) (sk' := [.int ((nI i) + 1), .ref 120, .ref 53, .int r]) (st' := s1) (fun _ h => h) ?_
  rw [show ((nI i) + 1) = nI (i + 1) from nI_add i 1]
  refine w_sald (n := 0) (fs := []) rfl (by rw [hS]; exact vp_in_nI (n := i + 1) (N := L) (by omega) (by omega)) ?_
  rw [nI_clamp (show i + 1 < 2 ^ 31 by omega)]
  refine w_blk 4 (pc' := 578) (ls' := [some (.ref 120), some (.ref 0), some (.ref 53), some (.int (nI i))]) (sk' := [.int ((nI i) + 2), .ref 120, .int (S.2 (i + 1)), .ref 53, .int r]) (st' := s1) (fun _ h => h) ?_
  rw [show ((nI i) + 2) = nI (i + 2) from nI_add i 2]
  refine w_sald (n := 0) (fs := []) rfl (by rw [hS]; exact vp_in_nI (n := i + 2) (N := L) (by omega) (by omega)) ?_
  rw [nI_clamp (show i + 2 < 2 ^ 31 by omega)]
  refine w_blk 4 (pc' := 583) (ls' := [some (.ref 120), some (.ref 0), some (.ref 53), some (.int (nI i))]) (sk' := [.int ((nI i) + 3), .ref 120, .int (S.2 (i + 2)), .int (S.2 (i + 1)), .ref 53, .int r]) (st' := s1) (fun _ h => h) ?_
  rw [show ((nI i) + 3) = nI (i + 3) from nI_add i 3]
  refine w_sald (n := 0) (fs := []) rfl (by rw [hS]; exact vp_in_nI (n := i + 3) (N := L) (by omega) (by omega)) ?_
  rw [nI_clamp (show i + 3 < 2 ^ 31 by omega)]
  refine w_callV (As := [.ref 53, .int (S.2 (i + 1)), .int (S.2 (i + 2)), .int (S.2 (i + 3))]) (rest := [.int r]) rfl rfl rfl (Nat.le_of_ble_eq_true rfl) (Nat.le_of_ble_eq_true rfl) (by first | exact Or.inl ⟨rfl, rfl⟩ | exact Or.inr ⟨rfl, rfl⟩) h2 ?_
  refine w_cmp_eq rfl (fun _ => ?_) (fun hno => absurd rfl hno)
  exact K s2 hI2
set_option maxRecDepth 20000 in
theorem lc_16 {S : Nat × (Nat → Int32)} {L i : Nat} {Q : Option Value → mSt → Prop} (hS : S.1 - 1 = L) (hL : L ≤ 3072) (hi : i + 6 ≤ L) (K : ∀ s, INV s → mW (mMC mT (20)) S (mAtL P_L_law) (some .boolean) Q 982 [some (.ref 120), some (.ref 0), some (.ref 53), some (.int (nI i))] [] s) (st : mSt) (hI : INV st) : mW (mMC mT (20)) S (mAtL P_L_law) (some .boolean) Q 592 [some (.ref 120), some (.ref 0), some (.ref 53), some (.int (nI i))] [] st := by
  refine w_blk 5 (pc' := 597) (ls' := [some (.ref 120), some (.ref 0), some (.ref 53), some (.int (nI i))]) (sk' := [.int ((nI i) + 1), .ref 120, .ref 0]) (st' := st) (fun _ h => h) ?_
  rw [show ((nI i) + 1) = nI (i + 1) from nI_add i 1]
  refine w_sald (n := 0) (fs := []) rfl (by rw [hS]; exact vp_in_nI (n := i + 1) (N := L) (by omega) (by omega)) ?_
  rw [nI_clamp (show i + 1 < 2 ^ 31 by omega)]
  refine w_blk 4 (pc' := 602) (ls' := [some (.ref 120), some (.ref 0), some (.ref 53), some (.int (nI i))]) (sk' := [.int ((nI i) + 2), .ref 120, .int (S.2 (i + 1)), .ref 0]) (st' := st) (fun _ h => h) ?_
  rw [show ((nI i) + 2) = nI (i + 2) from nI_add i 2]
  refine w_sald (n := 0) (fs := []) rfl (by rw [hS]; exact vp_in_nI (n := i + 2) (N := L) (by omega) (by omega)) ?_
  rw [nI_clamp (show i + 2 < 2 ^ 31 by omega)]
  refine w_blk 4 (pc' := 607) (ls' := [some (.ref 120), some (.ref 0), some (.ref 53), some (.int (nI i))]) (sk' := [.int ((nI i) + 3), .ref 120, .int (S.2 (i + 2)), .int (S.2 (i + 1)), .ref 0]) (st' := st) (fun _ h => h) ?_
  rw [show ((nI i) + 3) = nI (i + 3) from nI_add i 3]
  refine w_sald (n := 0) (fs := []) rfl (by rw [hS]; exact vp_in_nI (n := i + 3) (N := L) (by omega) (by omega)) ?_
  rw [nI_clamp (show i + 3 < 2 ^ 31 by omega)]
  refine w_blk 4 (pc' := 612) (ls' := [some (.ref 120), some (.ref 0), some (.ref 53), some (.int (nI i))]) (sk' := [.int ((nI i) + 4), .ref 120, .int (S.2 (i + 3)), .int (S.2 (i + 2)), .int (S.2 (i + 1)), .ref 0]) (st' := st) (fun _ h => h) ?_
  rw [show ((nI i) + 4) = nI (i + 4) from nI_add i 4]
  refine w_sald (n := 0) (fs := []) rfl (by rw [hS]; exact vp_in_nI (n := i + 4) (N := L) (by omega) (by omega)) ?_
  rw [nI_clamp (show i + 4 < 2 ^ 31 by omega)]
  refine w_blk 4 (pc' := 617) (ls' := [some (.ref 120), some (.ref 0), some (.ref 53), some (.int (nI i))]) (sk' := [.int ((nI i) + 5), .ref 120, .int (S.2 (i + 4)), .int (S.2 (i + 3)), .int (S.2 (i + 2)), .int (S.2 (i + 1)), .ref 0]) (st' := st) (fun _ h => h) ?_
  rw [show ((nI i) + 5) = nI (i + 5) from nI_add i 5]
  refine w_sald (n := 0) (fs := []) rfl (by rw [hS]; exact vp_in_nI (n := i + 5) (N := L) (by omega) (by omega)) ?_
  rw [nI_clamp (show i + 5 < 2 ^ 31 by omega)]
  obtain ⟨r, s1, s2, h1, h2, hI2⟩ := k_meeting (S.2 (i + 1)) (S.2 (i + 2)) (S.2 (i + 3)) (S.2 (i + 4)) (S.2 (i + 5)) st hI
  refine w_callV (As := [.ref 0, .int (S.2 (i + 1)), .int (S.2 (i + 2)), .int (S.2 (i + 3)), .int (S.2 (i + 4)), .int (S.2 (i + 5))]) (rest := []) rfl rfl rfl (Nat.le_of_ble_eq_true rfl) (Nat.le_of_ble_eq_true rfl) (by first | exact Or.inl ⟨rfl, rfl⟩ | exact Or.inr ⟨rfl, rfl⟩) h1 ?_
  refine w_blk 5 (pc' := 626) (ls' := [some (.ref 120), some (.ref 0), some (.ref 53), some (.int (nI i))]) (sk' := [.int ((nI i) + 1), .ref 120, .ref 53, .int r]) (st' := s1) (fun _ h => h) ?_
  rw [show ((nI i) + 1) = nI (i + 1) from nI_add i 1]
  refine w_sald (n := 0) (fs := []) rfl (by rw [hS]; exact vp_in_nI (n := i + 1) (N := L) (by omega) (by omega)) ?_
  rw [nI_clamp (show i + 1 < 2 ^ 31 by omega)]
  refine w_blk 4 (pc' := 631) (ls' := [some (.ref 120), some (.ref 0), some (.ref 53), some (.int (nI i))]) (sk' := [.int ((nI i) + 2), .ref 120, .int (S.2 (i + 1)), .ref 53, .int r]) (st' := s1) (fun _ h => h) ?_
  rw [show ((nI i) + 2) = nI (i + 2) from nI_add i 2]
  refine w_sald (n := 0) (fs := []) rfl (by rw [hS]; exact vp_in_nI (n := i + 2) (N := L) (by omega) (by omega)) ?_
  rw [nI_clamp (show i + 2 < 2 ^ 31 by omega)]
  refine w_blk 4 (pc' := 636) (ls' := [some (.ref 120), some (.ref 0), some (.ref 53), some (.int (nI i))]) (sk' := [.int ((nI i) + 3), .ref 120, .int (S.2 (i + 2)), .int (S.2 (i + 1)), .ref 53, .int r]) (st' := s1) (fun _ h => h) ?_
  rw [show ((nI i) + 3) = nI (i + 3) from nI_add i 3]
  refine w_sald (n := 0) (fs := []) rfl (by rw [hS]; exact vp_in_nI (n := i + 3) (N := L) (by omega) (by omega)) ?_
  rw [nI_clamp (show i + 3 < 2 ^ 31 by omega)]
  refine w_blk 4 (pc' := 641) (ls' := [some (.ref 120), some (.ref 0), some (.ref 53), some (.int (nI i))]) (sk' := [.int ((nI i) + 4), .ref 120, .int (S.2 (i + 3)), .int (S.2 (i + 2)), .int (S.2 (i + 1)), .ref 53, .int r]) (st' := s1) (fun _ h => h) ?_
  rw [show ((nI i) + 4) = nI (i + 4) from nI_add i 4]
  refine w_sald (n := 0) (fs := []) rfl (by rw [hS]; exact vp_in_nI (n := i + 4) (N := L) (by omega) (by omega)) ?_
  rw [nI_clamp (show i + 4 < 2 ^ 31 by omega)]
  refine w_blk 4 (pc' := 646) (ls' := [some (.ref 120), some (.ref 0), some (.ref 53), some (.int (nI i))]) (sk' := [.int ((nI i) + 5), .ref 120, .int (S.2 (i + 4)), .int (S.2 (i + 3)), .int (S.2 (i + 2)), .int (S.2 (i + 1)), .ref 53, .int r]) (st' := s1) (fun _ h => h) ?_
  rw [show ((nI i) + 5) = nI (i + 5) from nI_add i 5]
  refine w_sald (n := 0) (fs := []) rfl (by rw [hS]; exact vp_in_nI (n := i + 5) (N := L) (by omega) (by omega)) ?_
  rw [nI_clamp (show i + 5 < 2 ^ 31 by omega)]
  refine w_callV (As := [.ref 53, .int (S.2 (i + 1)), .int (S.2 (i + 2)), .int (S.2 (i + 3)), .int (S.2 (i + 4)), .int (S.2 (i + 5))]) (rest := [.int r]) rfl rfl rfl (Nat.le_of_ble_eq_true rfl) (Nat.le_of_ble_eq_true rfl) (by first | exact Or.inl ⟨rfl, rfl⟩ | exact Or.inr ⟨rfl, rfl⟩) h2 ?_
  refine w_cmp_eq rfl (fun _ => ?_) (fun hno => absurd rfl hno)
  exact K s2 hI2
set_option maxRecDepth 20000 in
theorem lc_17 {S : Nat × (Nat → Int32)} {L i : Nat} {Q : Option Value → mSt → Prop} (hS : S.1 - 1 = L) (hL : L ≤ 3072) (hi : i + 6 ≤ L) (K : ∀ s, INV s → mW (mMC mT (20)) S (mAtL P_L_law) (some .boolean) Q 982 [some (.ref 120), some (.ref 0), some (.ref 53), some (.int (nI i))] [] s) (st : mSt) (hI : INV st) : mW (mMC mT (20)) S (mAtL P_L_law) (some .boolean) Q 655 [some (.ref 120), some (.ref 0), some (.ref 53), some (.int (nI i))] [] st := by
  refine w_blk 5 (pc' := 660) (ls' := [some (.ref 120), some (.ref 0), some (.ref 53), some (.int (nI i))]) (sk' := [.int ((nI i) + 1), .ref 120, .ref 0]) (st' := st) (fun _ h => h) ?_
  rw [show ((nI i) + 1) = nI (i + 1) from nI_add i 1]
  refine w_sald (n := 0) (fs := []) rfl (by rw [hS]; exact vp_in_nI (n := i + 1) (N := L) (by omega) (by omega)) ?_
  rw [nI_clamp (show i + 1 < 2 ^ 31 by omega)]
  refine w_blk 4 (pc' := 665) (ls' := [some (.ref 120), some (.ref 0), some (.ref 53), some (.int (nI i))]) (sk' := [.int ((nI i) + 2), .ref 120, .int (S.2 (i + 1)), .ref 0]) (st' := st) (fun _ h => h) ?_
  rw [show ((nI i) + 2) = nI (i + 2) from nI_add i 2]
  refine w_sald (n := 0) (fs := []) rfl (by rw [hS]; exact vp_in_nI (n := i + 2) (N := L) (by omega) (by omega)) ?_
  rw [nI_clamp (show i + 2 < 2 ^ 31 by omega)]
  refine w_blk 4 (pc' := 670) (ls' := [some (.ref 120), some (.ref 0), some (.ref 53), some (.int (nI i))]) (sk' := [.int ((nI i) + 3), .ref 120, .int (S.2 (i + 2)), .int (S.2 (i + 1)), .ref 0]) (st' := st) (fun _ h => h) ?_
  rw [show ((nI i) + 3) = nI (i + 3) from nI_add i 3]
  refine w_sald (n := 0) (fs := []) rfl (by rw [hS]; exact vp_in_nI (n := i + 3) (N := L) (by omega) (by omega)) ?_
  rw [nI_clamp (show i + 3 < 2 ^ 31 by omega)]
  refine w_blk 4 (pc' := 675) (ls' := [some (.ref 120), some (.ref 0), some (.ref 53), some (.int (nI i))]) (sk' := [.int ((nI i) + 4), .ref 120, .int (S.2 (i + 3)), .int (S.2 (i + 2)), .int (S.2 (i + 1)), .ref 0]) (st' := st) (fun _ h => h) ?_
  rw [show ((nI i) + 4) = nI (i + 4) from nI_add i 4]
  refine w_sald (n := 0) (fs := []) rfl (by rw [hS]; exact vp_in_nI (n := i + 4) (N := L) (by omega) (by omega)) ?_
  rw [nI_clamp (show i + 4 < 2 ^ 31 by omega)]
  obtain ⟨r, s1, s2, h1, h2, hI2⟩ := k_songs (S.2 (i + 1)) (S.2 (i + 2)) (S.2 (i + 3)) (S.2 (i + 4)) st hI
  refine w_callV (As := [.ref 0, .int (S.2 (i + 1)), .int (S.2 (i + 2)), .int (S.2 (i + 3)), .int (S.2 (i + 4))]) (rest := []) rfl rfl rfl (Nat.le_of_ble_eq_true rfl) (Nat.le_of_ble_eq_true rfl) (by first | exact Or.inl ⟨rfl, rfl⟩ | exact Or.inr ⟨rfl, rfl⟩) h1 ?_
  refine w_blk 5 (pc' := 684) (ls' := [some (.ref 120), some (.ref 0), some (.ref 53), some (.int (nI i))]) (sk' := [.int ((nI i) + 1), .ref 120, .ref 53, .int r]) (st' := s1) (fun _ h => h) ?_
  rw [show ((nI i) + 1) = nI (i + 1) from nI_add i 1]
  refine w_sald (n := 0) (fs := []) rfl (by rw [hS]; exact vp_in_nI (n := i + 1) (N := L) (by omega) (by omega)) ?_
  rw [nI_clamp (show i + 1 < 2 ^ 31 by omega)]
  refine w_blk 4 (pc' := 689) (ls' := [some (.ref 120), some (.ref 0), some (.ref 53), some (.int (nI i))]) (sk' := [.int ((nI i) + 2), .ref 120, .int (S.2 (i + 1)), .ref 53, .int r]) (st' := s1) (fun _ h => h) ?_
  rw [show ((nI i) + 2) = nI (i + 2) from nI_add i 2]
  refine w_sald (n := 0) (fs := []) rfl (by rw [hS]; exact vp_in_nI (n := i + 2) (N := L) (by omega) (by omega)) ?_
  rw [nI_clamp (show i + 2 < 2 ^ 31 by omega)]
  refine w_blk 4 (pc' := 694) (ls' := [some (.ref 120), some (.ref 0), some (.ref 53), some (.int (nI i))]) (sk' := [.int ((nI i) + 3), .ref 120, .int (S.2 (i + 2)), .int (S.2 (i + 1)), .ref 53, .int r]) (st' := s1) (fun _ h => h) ?_
  rw [show ((nI i) + 3) = nI (i + 3) from nI_add i 3]
  refine w_sald (n := 0) (fs := []) rfl (by rw [hS]; exact vp_in_nI (n := i + 3) (N := L) (by omega) (by omega)) ?_
  rw [nI_clamp (show i + 3 < 2 ^ 31 by omega)]
  refine w_blk 4 (pc' := 699) (ls' := [some (.ref 120), some (.ref 0), some (.ref 53), some (.int (nI i))]) (sk' := [.int ((nI i) + 4), .ref 120, .int (S.2 (i + 3)), .int (S.2 (i + 2)), .int (S.2 (i + 1)), .ref 53, .int r]) (st' := s1) (fun _ h => h) ?_
  rw [show ((nI i) + 4) = nI (i + 4) from nI_add i 4]
  refine w_sald (n := 0) (fs := []) rfl (by rw [hS]; exact vp_in_nI (n := i + 4) (N := L) (by omega) (by omega)) ?_
  rw [nI_clamp (show i + 4 < 2 ^ 31 by omega)]
  refine w_callV (As := [.ref 53, .int (S.2 (i + 1)), .int (S.2 (i + 2)), .int (S.2 (i + 3)), .int (S.2 (i + 4))]) (rest := [.int r]) rfl rfl rfl (Nat.le_of_ble_eq_true rfl) (Nat.le_of_ble_eq_true rfl) (by first | exact Or.inl ⟨rfl, rfl⟩ | exact Or.inr ⟨rfl, rfl⟩) h2 ?_
  refine w_cmp_eq rfl (fun _ => ?_) (fun hno => absurd rfl hno)
  exact K s2 hI2
set_option maxRecDepth 20000 in
theorem lc_18 {S : Nat × (Nat → Int32)} {L i : Nat} {Q : Option Value → mSt → Prop} (hS : S.1 - 1 = L) (hL : L ≤ 3072) (hi : i + 6 ≤ L) (K : ∀ s, INV s → mW (mMC mT (20)) S (mAtL P_L_law) (some .boolean) Q 982 [some (.ref 120), some (.ref 0), some (.ref 53), some (.int (nI i))] [] s) (st : mSt) (hI : INV st) : mW (mMC mT (20)) S (mAtL P_L_law) (some .boolean) Q 708 [some (.ref 120), some (.ref 0), some (.ref 53), some (.int (nI i))] [] st := by
  refine w_blk 5 (pc' := 713) (ls' := [some (.ref 120), some (.ref 0), some (.ref 53), some (.int (nI i))]) (sk' := [.int ((nI i) + 1), .ref 120, .ref 0]) (st' := st) (fun _ h => h) ?_
  rw [show ((nI i) + 1) = nI (i + 1) from nI_add i 1]
  refine w_sald (n := 0) (fs := []) rfl (by rw [hS]; exact vp_in_nI (n := i + 1) (N := L) (by omega) (by omega)) ?_
  rw [nI_clamp (show i + 1 < 2 ^ 31 by omega)]
  refine w_blk 4 (pc' := 718) (ls' := [some (.ref 120), some (.ref 0), some (.ref 53), some (.int (nI i))]) (sk' := [.int ((nI i) + 2), .ref 120, .int (S.2 (i + 1)), .ref 0]) (st' := st) (fun _ h => h) ?_
  rw [show ((nI i) + 2) = nI (i + 2) from nI_add i 2]
  refine w_sald (n := 0) (fs := []) rfl (by rw [hS]; exact vp_in_nI (n := i + 2) (N := L) (by omega) (by omega)) ?_
  rw [nI_clamp (show i + 2 < 2 ^ 31 by omega)]
  refine w_blk 4 (pc' := 723) (ls' := [some (.ref 120), some (.ref 0), some (.ref 53), some (.int (nI i))]) (sk' := [.int ((nI i) + 3), .ref 120, .int (S.2 (i + 2)), .int (S.2 (i + 1)), .ref 0]) (st' := st) (fun _ h => h) ?_
  rw [show ((nI i) + 3) = nI (i + 3) from nI_add i 3]
  refine w_sald (n := 0) (fs := []) rfl (by rw [hS]; exact vp_in_nI (n := i + 3) (N := L) (by omega) (by omega)) ?_
  rw [nI_clamp (show i + 3 < 2 ^ 31 by omega)]
  obtain ⟨r, s1, s2, h1, h2, hI2⟩ := k_hole (S.2 (i + 1)) (S.2 (i + 2)) (S.2 (i + 3)) st hI
  refine w_callV (As := [.ref 0, .int (S.2 (i + 1)), .int (S.2 (i + 2)), .int (S.2 (i + 3))]) (rest := []) rfl rfl rfl (Nat.le_of_ble_eq_true rfl) (Nat.le_of_ble_eq_true rfl) (by first | exact Or.inl ⟨rfl, rfl⟩ | exact Or.inr ⟨rfl, rfl⟩) h1 ?_
  refine w_blk 5 (pc' := 732) (ls' := [some (.ref 120), some (.ref 0), some (.ref 53), some (.int (nI i))]) (sk' := [.int ((nI i) + 1), .ref 120, .ref 53, .int r]) (st' := s1) (fun _ h => h) ?_
  rw [show ((nI i) + 1) = nI (i + 1) from nI_add i 1]
  refine w_sald (n := 0) (fs := []) rfl (by rw [hS]; exact vp_in_nI (n := i + 1) (N := L) (by omega) (by omega)) ?_
  rw [nI_clamp (show i + 1 < 2 ^ 31 by omega)]
  refine w_blk 4 (pc' := 737) (ls' := [some (.ref 120), some (.ref 0), some (.ref 53), some (.int (nI i))]) (sk' := [.int ((nI i) + 2), .ref 120, .int (S.2 (i + 1)), .ref 53, .int r]) (st' := s1) (fun _ h => h) ?_
  rw [show ((nI i) + 2) = nI (i + 2) from nI_add i 2]
  refine w_sald (n := 0) (fs := []) rfl (by rw [hS]; exact vp_in_nI (n := i + 2) (N := L) (by omega) (by omega)) ?_
  rw [nI_clamp (show i + 2 < 2 ^ 31 by omega)]
  refine w_blk 4 (pc' := 742) (ls' := [some (.ref 120), some (.ref 0), some (.ref 53), some (.int (nI i))]) (sk' := [.int ((nI i) + 3), .ref 120, .int (S.2 (i + 2)), .int (S.2 (i + 1)), .ref 53, .int r]) (st' := s1) (fun _ h => h) ?_
  rw [show ((nI i) + 3) = nI (i + 3) from nI_add i 3]
  refine w_sald (n := 0) (fs := []) rfl (by rw [hS]; exact vp_in_nI (n := i + 3) (N := L) (by omega) (by omega)) ?_
  rw [nI_clamp (show i + 3 < 2 ^ 31 by omega)]
  refine w_callV (As := [.ref 53, .int (S.2 (i + 1)), .int (S.2 (i + 2)), .int (S.2 (i + 3))]) (rest := [.int r]) rfl rfl rfl (Nat.le_of_ble_eq_true rfl) (Nat.le_of_ble_eq_true rfl) (by first | exact Or.inl ⟨rfl, rfl⟩ | exact Or.inr ⟨rfl, rfl⟩) h2 ?_
  refine w_cmp_eq rfl (fun _ => ?_) (fun hno => absurd rfl hno)
  exact K s2 hI2
set_option maxRecDepth 20000 in
theorem lc_19 {S : Nat × (Nat → Int32)} {L i : Nat} {Q : Option Value → mSt → Prop} (hS : S.1 - 1 = L) (hL : L ≤ 3072) (hi : i + 6 ≤ L) (K : ∀ s, INV s → mW (mMC mT (20)) S (mAtL P_L_law) (some .boolean) Q 982 [some (.ref 120), some (.ref 0), some (.ref 53), some (.int (nI i))] [] s) (st : mSt) (hI : INV st) : mW (mMC mT (20)) S (mAtL P_L_law) (some .boolean) Q 751 [some (.ref 120), some (.ref 0), some (.ref 53), some (.int (nI i))] [] st := by
  refine w_blk 5 (pc' := 756) (ls' := [some (.ref 120), some (.ref 0), some (.ref 53), some (.int (nI i))]) (sk' := [.int ((nI i) + 1), .ref 120, .ref 0]) (st' := st) (fun _ h => h) ?_
  rw [show ((nI i) + 1) = nI (i + 1) from nI_add i 1]
  refine w_sald (n := 0) (fs := []) rfl (by rw [hS]; exact vp_in_nI (n := i + 1) (N := L) (by omega) (by omega)) ?_
  rw [nI_clamp (show i + 1 < 2 ^ 31 by omega)]
  obtain ⟨r, s1, s2, h1, h2, hI2⟩ := k_night (S.2 (i + 1)) st hI
  refine w_callV (As := [.ref 0, .int (S.2 (i + 1))]) (rest := []) rfl rfl rfl (Nat.le_of_ble_eq_true rfl) (Nat.le_of_ble_eq_true rfl) (by first | exact Or.inl ⟨rfl, rfl⟩ | exact Or.inr ⟨rfl, rfl⟩) h1 ?_
  refine w_blk 5 (pc' := 765) (ls' := [some (.ref 120), some (.ref 0), some (.ref 53), some (.int (nI i))]) (sk' := [.int ((nI i) + 1), .ref 120, .ref 53, .int r]) (st' := s1) (fun _ h => h) ?_
  rw [show ((nI i) + 1) = nI (i + 1) from nI_add i 1]
  refine w_sald (n := 0) (fs := []) rfl (by rw [hS]; exact vp_in_nI (n := i + 1) (N := L) (by omega) (by omega)) ?_
  rw [nI_clamp (show i + 1 < 2 ^ 31 by omega)]
  refine w_callV (As := [.ref 53, .int (S.2 (i + 1))]) (rest := [.int r]) rfl rfl rfl (Nat.le_of_ble_eq_true rfl) (Nat.le_of_ble_eq_true rfl) (by first | exact Or.inl ⟨rfl, rfl⟩ | exact Or.inr ⟨rfl, rfl⟩) h2 ?_
  refine w_cmp_eq rfl (fun _ => ?_) (fun hno => absurd rfl hno)
  exact K s2 hI2
set_option maxRecDepth 20000 in
theorem lc_20 {S : Nat × (Nat → Int32)} {L i : Nat} {Q : Option Value → mSt → Prop} (hS : S.1 - 1 = L) (hL : L ≤ 3072) (hi : i + 6 ≤ L) (K : ∀ s, INV s → mW (mMC mT (20)) S (mAtL P_L_law) (some .boolean) Q 982 [some (.ref 120), some (.ref 0), some (.ref 53), some (.int (nI i))] [] s) (st : mSt) (hI : INV st) : mW (mMC mT (20)) S (mAtL P_L_law) (some .boolean) Q 774 [some (.ref 120), some (.ref 0), some (.ref 53), some (.int (nI i))] [] st := by
  refine w_blk 1 (pc' := 775) (ls' := [some (.ref 120), some (.ref 0), some (.ref 53), some (.int (nI i))]) (sk' := [.ref 0]) (st' := st) (fun _ h => h) ?_
  obtain ⟨r, s1, s2, h1, h2, hI2⟩ := k_least st hI
  refine w_callV (As := [.ref 0]) (rest := []) rfl rfl rfl (Nat.le_of_ble_eq_true rfl) (Nat.le_of_ble_eq_true rfl) (by first | exact Or.inl ⟨rfl, rfl⟩ | exact Or.inr ⟨rfl, rfl⟩) h1 ?_
  refine w_blk 1 (pc' := 779) (ls' := [some (.ref 120), some (.ref 0), some (.ref 53), some (.int (nI i))]) (sk' := [.ref 53, .int r]) (st' := s1) (fun _ h => h) ?_
  refine w_callV (As := [.ref 53]) (rest := [.int r]) rfl rfl rfl (Nat.le_of_ble_eq_true rfl) (Nat.le_of_ble_eq_true rfl) (by first | exact Or.inl ⟨rfl, rfl⟩ | exact Or.inr ⟨rfl, rfl⟩) h2 ?_
  refine w_cmp_eq rfl (fun _ => ?_) (fun hno => absurd rfl hno)
  exact K s2 hI2
set_option maxRecDepth 20000 in
theorem lc_21 {S : Nat × (Nat → Int32)} {L i : Nat} {Q : Option Value → mSt → Prop} (hS : S.1 - 1 = L) (hL : L ≤ 3072) (hi : i + 6 ≤ L) (K : ∀ s, INV s → mW (mMC mT (20)) S (mAtL P_L_law) (some .boolean) Q 982 [some (.ref 120), some (.ref 0), some (.ref 53), some (.int (nI i))] [] s) (st : mSt) (hI : INV st) : mW (mMC mT (20)) S (mAtL P_L_law) (some .boolean) Q 787 [some (.ref 120), some (.ref 0), some (.ref 53), some (.int (nI i))] [] st := by
  refine w_blk 1 (pc' := 788) (ls' := [some (.ref 120), some (.ref 0), some (.ref 53), some (.int (nI i))]) (sk' := [.ref 0]) (st' := st) (fun _ h => h) ?_
  obtain ⟨r, s1, s2, h1, h2, hI2⟩ := k_dry st hI
  refine w_callV (As := [.ref 0]) (rest := []) rfl rfl rfl (Nat.le_of_ble_eq_true rfl) (Nat.le_of_ble_eq_true rfl) (by first | exact Or.inl ⟨rfl, rfl⟩ | exact Or.inr ⟨rfl, rfl⟩) h1 ?_
  refine w_blk 1 (pc' := 792) (ls' := [some (.ref 120), some (.ref 0), some (.ref 53), some (.int (nI i))]) (sk' := [.ref 53, .int r]) (st' := s1) (fun _ h => h) ?_
  refine w_callV (As := [.ref 53]) (rest := [.int r]) rfl rfl rfl (Nat.le_of_ble_eq_true rfl) (Nat.le_of_ble_eq_true rfl) (by first | exact Or.inl ⟨rfl, rfl⟩ | exact Or.inr ⟨rfl, rfl⟩) h2 ?_
  refine w_cmp_eq rfl (fun _ => ?_) (fun hno => absurd rfl hno)
  exact K s2 hI2
set_option maxRecDepth 20000 in
theorem lc_22 {S : Nat × (Nat → Int32)} {L i : Nat} {Q : Option Value → mSt → Prop} (hS : S.1 - 1 = L) (hL : L ≤ 3072) (hi : i + 6 ≤ L) (K : ∀ s, INV s → mW (mMC mT (20)) S (mAtL P_L_law) (some .boolean) Q 982 [some (.ref 120), some (.ref 0), some (.ref 53), some (.int (nI i))] [] s) (st : mSt) (hI : INV st) : mW (mMC mT (20)) S (mAtL P_L_law) (some .boolean) Q 800 [some (.ref 120), some (.ref 0), some (.ref 53), some (.int (nI i))] [] st := by
  refine w_blk 5 (pc' := 805) (ls' := [some (.ref 120), some (.ref 0), some (.ref 53), some (.int (nI i))]) (sk' := [.int ((nI i) + 1), .ref 120, .ref 0]) (st' := st) (fun _ h => h) ?_
  rw [show ((nI i) + 1) = nI (i + 1) from nI_add i 1]
  refine w_sald (n := 0) (fs := []) rfl (by rw [hS]; exact vp_in_nI (n := i + 1) (N := L) (by omega) (by omega)) ?_
  rw [nI_clamp (show i + 1 < 2 ^ 31 by omega)]
  refine w_blk 4 (pc' := 810) (ls' := [some (.ref 120), some (.ref 0), some (.ref 53), some (.int (nI i))]) (sk' := [.int ((nI i) + 2), .ref 120, .int (S.2 (i + 1)), .ref 0]) (st' := st) (fun _ h => h) ?_
  rw [show ((nI i) + 2) = nI (i + 2) from nI_add i 2]
  refine w_sald (n := 0) (fs := []) rfl (by rw [hS]; exact vp_in_nI (n := i + 2) (N := L) (by omega) (by omega)) ?_
  rw [nI_clamp (show i + 2 < 2 ^ 31 by omega)]
  refine w_blk 4 (pc' := 815) (ls' := [some (.ref 120), some (.ref 0), some (.ref 53), some (.int (nI i))]) (sk' := [.int ((nI i) + 3), .ref 120, .int (S.2 (i + 2)), .int (S.2 (i + 1)), .ref 0]) (st' := st) (fun _ h => h) ?_
  rw [show ((nI i) + 3) = nI (i + 3) from nI_add i 3]
  refine w_sald (n := 0) (fs := []) rfl (by rw [hS]; exact vp_in_nI (n := i + 3) (N := L) (by omega) (by omega)) ?_
  rw [nI_clamp (show i + 3 < 2 ^ 31 by omega)]
  obtain ⟨r, s1, s2, h1, h2, hI2⟩ := k_tell (S.2 (i + 1)) (S.2 (i + 2)) (S.2 (i + 3)) st hI
  refine w_callV (As := [.ref 0, .int (S.2 (i + 1)), .int (S.2 (i + 2)), .int (S.2 (i + 3))]) (rest := []) rfl rfl rfl (Nat.le_of_ble_eq_true rfl) (Nat.le_of_ble_eq_true rfl) (by first | exact Or.inl ⟨rfl, rfl⟩ | exact Or.inr ⟨rfl, rfl⟩) h1 ?_
  refine w_blk 5 (pc' := 824) (ls' := [some (.ref 120), some (.ref 0), some (.ref 53), some (.int (nI i))]) (sk' := [.int ((nI i) + 1), .ref 120, .ref 53, .int r]) (st' := s1) (fun _ h => h) ?_
  rw [show ((nI i) + 1) = nI (i + 1) from nI_add i 1]
  refine w_sald (n := 0) (fs := []) rfl (by rw [hS]; exact vp_in_nI (n := i + 1) (N := L) (by omega) (by omega)) ?_
  rw [nI_clamp (show i + 1 < 2 ^ 31 by omega)]
  refine w_blk 4 (pc' := 829) (ls' := [some (.ref 120), some (.ref 0), some (.ref 53), some (.int (nI i))]) (sk' := [.int ((nI i) + 2), .ref 120, .int (S.2 (i + 1)), .ref 53, .int r]) (st' := s1) (fun _ h => h) ?_
  rw [show ((nI i) + 2) = nI (i + 2) from nI_add i 2]
  refine w_sald (n := 0) (fs := []) rfl (by rw [hS]; exact vp_in_nI (n := i + 2) (N := L) (by omega) (by omega)) ?_
  rw [nI_clamp (show i + 2 < 2 ^ 31 by omega)]
  refine w_blk 4 (pc' := 834) (ls' := [some (.ref 120), some (.ref 0), some (.ref 53), some (.int (nI i))]) (sk' := [.int ((nI i) + 3), .ref 120, .int (S.2 (i + 2)), .int (S.2 (i + 1)), .ref 53, .int r]) (st' := s1) (fun _ h => h) ?_
  rw [show ((nI i) + 3) = nI (i + 3) from nI_add i 3]
  refine w_sald (n := 0) (fs := []) rfl (by rw [hS]; exact vp_in_nI (n := i + 3) (N := L) (by omega) (by omega)) ?_
  rw [nI_clamp (show i + 3 < 2 ^ 31 by omega)]
  refine w_callV (As := [.ref 53, .int (S.2 (i + 1)), .int (S.2 (i + 2)), .int (S.2 (i + 3))]) (rest := [.int r]) rfl rfl rfl (Nat.le_of_ble_eq_true rfl) (Nat.le_of_ble_eq_true rfl) (by first | exact Or.inl ⟨rfl, rfl⟩ | exact Or.inr ⟨rfl, rfl⟩) h2 ?_
  refine w_cmp_eq rfl (fun _ => ?_) (fun hno => absurd rfl hno)
  exact K s2 hI2
set_option maxRecDepth 20000 in
theorem lc_23 {S : Nat × (Nat → Int32)} {L i : Nat} {Q : Option Value → mSt → Prop} (hS : S.1 - 1 = L) (hL : L ≤ 3072) (hi : i + 6 ≤ L) (K : ∀ s, INV s → mW (mMC mT (20)) S (mAtL P_L_law) (some .boolean) Q 982 [some (.ref 120), some (.ref 0), some (.ref 53), some (.int (nI i))] [] s) (st : mSt) (hI : INV st) : mW (mMC mT (20)) S (mAtL P_L_law) (some .boolean) Q 843 [some (.ref 120), some (.ref 0), some (.ref 53), some (.int (nI i))] [] st := by
  refine w_blk 5 (pc' := 848) (ls' := [some (.ref 120), some (.ref 0), some (.ref 53), some (.int (nI i))]) (sk' := [.int ((nI i) + 1), .ref 120, .ref 0]) (st' := st) (fun _ h => h) ?_
  rw [show ((nI i) + 1) = nI (i + 1) from nI_add i 1]
  refine w_sald (n := 0) (fs := []) rfl (by rw [hS]; exact vp_in_nI (n := i + 1) (N := L) (by omega) (by omega)) ?_
  rw [nI_clamp (show i + 1 < 2 ^ 31 by omega)]
  obtain ⟨r, s1, s2, h1, h2, hI2⟩ := k_cheats (S.2 (i + 1)) st hI
  refine w_callV (As := [.ref 0, .int (S.2 (i + 1))]) (rest := []) rfl rfl rfl (Nat.le_of_ble_eq_true rfl) (Nat.le_of_ble_eq_true rfl) (by first | exact Or.inl ⟨rfl, rfl⟩ | exact Or.inr ⟨rfl, rfl⟩) h1 ?_
  refine w_blk 5 (pc' := 857) (ls' := [some (.ref 120), some (.ref 0), some (.ref 53), some (.int (nI i))]) (sk' := [.int ((nI i) + 1), .ref 120, .ref 53, .int r]) (st' := s1) (fun _ h => h) ?_
  rw [show ((nI i) + 1) = nI (i + 1) from nI_add i 1]
  refine w_sald (n := 0) (fs := []) rfl (by rw [hS]; exact vp_in_nI (n := i + 1) (N := L) (by omega) (by omega)) ?_
  rw [nI_clamp (show i + 1 < 2 ^ 31 by omega)]
  refine w_callV (As := [.ref 53, .int (S.2 (i + 1))]) (rest := [.int r]) rfl rfl rfl (Nat.le_of_ble_eq_true rfl) (Nat.le_of_ble_eq_true rfl) (by first | exact Or.inl ⟨rfl, rfl⟩ | exact Or.inr ⟨rfl, rfl⟩) h2 ?_
  refine w_cmp_eq rfl (fun _ => ?_) (fun hno => absurd rfl hno)
  exact K s2 hI2
set_option maxRecDepth 20000 in
theorem lc_24 {S : Nat × (Nat → Int32)} {L i : Nat} {Q : Option Value → mSt → Prop} (hS : S.1 - 1 = L) (hL : L ≤ 3072) (hi : i + 6 ≤ L) (K : ∀ s, INV s → mW (mMC mT (20)) S (mAtL P_L_law) (some .boolean) Q 982 [some (.ref 120), some (.ref 0), some (.ref 53), some (.int (nI i))] [] s) (st : mSt) (hI : INV st) : mW (mMC mT (20)) S (mAtL P_L_law) (some .boolean) Q 866 [some (.ref 120), some (.ref 0), some (.ref 53), some (.int (nI i))] [] st := by
  refine w_blk 5 (pc' := 871) (ls' := [some (.ref 120), some (.ref 0), some (.ref 53), some (.int (nI i))]) (sk' := [.int ((nI i) + 1), .ref 120, .ref 0]) (st' := st) (fun _ h => h) ?_
  rw [show ((nI i) + 1) = nI (i + 1) from nI_add i 1]
  refine w_sald (n := 0) (fs := []) rfl (by rw [hS]; exact vp_in_nI (n := i + 1) (N := L) (by omega) (by omega)) ?_
  rw [nI_clamp (show i + 1 < 2 ^ 31 by omega)]
  refine w_blk 4 (pc' := 876) (ls' := [some (.ref 120), some (.ref 0), some (.ref 53), some (.int (nI i))]) (sk' := [.int ((nI i) + 2), .ref 120, .int (S.2 (i + 1)), .ref 0]) (st' := st) (fun _ h => h) ?_
  rw [show ((nI i) + 2) = nI (i + 2) from nI_add i 2]
  refine w_sald (n := 0) (fs := []) rfl (by rw [hS]; exact vp_in_nI (n := i + 2) (N := L) (by omega) (by omega)) ?_
  rw [nI_clamp (show i + 2 < 2 ^ 31 by omega)]
  obtain ⟨r, s1, s2, h1, h2, hI2⟩ := k_mark (S.2 (i + 1)) (S.2 (i + 2)) st hI
  refine w_callV (As := [.ref 0, .int (S.2 (i + 1)), .int (S.2 (i + 2))]) (rest := []) rfl rfl rfl (Nat.le_of_ble_eq_true rfl) (Nat.le_of_ble_eq_true rfl) (by first | exact Or.inl ⟨rfl, rfl⟩ | exact Or.inr ⟨rfl, rfl⟩) h1 ?_
  refine w_blk 5 (pc' := 885) (ls' := [some (.ref 120), some (.ref 0), some (.ref 53), some (.int (nI i))]) (sk' := [.int ((nI i) + 1), .ref 120, .ref 53, .int r]) (st' := s1) (fun _ h => h) ?_
  rw [show ((nI i) + 1) = nI (i + 1) from nI_add i 1]
  refine w_sald (n := 0) (fs := []) rfl (by rw [hS]; exact vp_in_nI (n := i + 1) (N := L) (by omega) (by omega)) ?_
  rw [nI_clamp (show i + 1 < 2 ^ 31 by omega)]
  refine w_blk 4 (pc' := 890) (ls' := [some (.ref 120), some (.ref 0), some (.ref 53), some (.int (nI i))]) (sk' := [.int ((nI i) + 2), .ref 120, .int (S.2 (i + 1)), .ref 53, .int r]) (st' := s1) (fun _ h => h) ?_
  rw [show ((nI i) + 2) = nI (i + 2) from nI_add i 2]
  refine w_sald (n := 0) (fs := []) rfl (by rw [hS]; exact vp_in_nI (n := i + 2) (N := L) (by omega) (by omega)) ?_
  rw [nI_clamp (show i + 2 < 2 ^ 31 by omega)]
  refine w_callV (As := [.ref 53, .int (S.2 (i + 1)), .int (S.2 (i + 2))]) (rest := [.int r]) rfl rfl rfl (Nat.le_of_ble_eq_true rfl) (Nat.le_of_ble_eq_true rfl) (by first | exact Or.inl ⟨rfl, rfl⟩ | exact Or.inr ⟨rfl, rfl⟩) h2 ?_
  refine w_cmp_eq rfl (fun _ => ?_) (fun hno => absurd rfl hno)
  exact K s2 hI2
set_option maxRecDepth 20000 in
theorem lc_25 {S : Nat × (Nat → Int32)} {L i : Nat} {Q : Option Value → mSt → Prop} (hS : S.1 - 1 = L) (hL : L ≤ 3072) (hi : i + 6 ≤ L) (K : ∀ s, INV s → mW (mMC mT (20)) S (mAtL P_L_law) (some .boolean) Q 982 [some (.ref 120), some (.ref 0), some (.ref 53), some (.int (nI i))] [] s) (st : mSt) (hI : INV st) : mW (mMC mT (20)) S (mAtL P_L_law) (some .boolean) Q 899 [some (.ref 120), some (.ref 0), some (.ref 53), some (.int (nI i))] [] st := by
  refine w_blk 5 (pc' := 904) (ls' := [some (.ref 120), some (.ref 0), some (.ref 53), some (.int (nI i))]) (sk' := [.int ((nI i) + 1), .ref 120, .ref 0]) (st' := st) (fun _ h => h) ?_
  rw [show ((nI i) + 1) = nI (i + 1) from nI_add i 1]
  refine w_sald (n := 0) (fs := []) rfl (by rw [hS]; exact vp_in_nI (n := i + 1) (N := L) (by omega) (by omega)) ?_
  rw [nI_clamp (show i + 1 < 2 ^ 31 by omega)]
  obtain ⟨r, s1, s2, h1, h2, hI2⟩ := k_keep (S.2 (i + 1)) st hI
  refine w_callV (As := [.ref 0, .int (S.2 (i + 1))]) (rest := []) rfl rfl rfl (Nat.le_of_ble_eq_true rfl) (Nat.le_of_ble_eq_true rfl) (by first | exact Or.inl ⟨rfl, rfl⟩ | exact Or.inr ⟨rfl, rfl⟩) h1 ?_
  refine w_blk 5 (pc' := 913) (ls' := [some (.ref 120), some (.ref 0), some (.ref 53), some (.int (nI i))]) (sk' := [.int ((nI i) + 1), .ref 120, .ref 53, .int r]) (st' := s1) (fun _ h => h) ?_
  rw [show ((nI i) + 1) = nI (i + 1) from nI_add i 1]
  refine w_sald (n := 0) (fs := []) rfl (by rw [hS]; exact vp_in_nI (n := i + 1) (N := L) (by omega) (by omega)) ?_
  rw [nI_clamp (show i + 1 < 2 ^ 31 by omega)]
  refine w_callV (As := [.ref 53, .int (S.2 (i + 1))]) (rest := [.int r]) rfl rfl rfl (Nat.le_of_ble_eq_true rfl) (Nat.le_of_ble_eq_true rfl) (by first | exact Or.inl ⟨rfl, rfl⟩ | exact Or.inr ⟨rfl, rfl⟩) h2 ?_
  refine w_cmp_eq rfl (fun _ => ?_) (fun hno => absurd rfl hno)
  exact K s2 hI2
set_option maxRecDepth 20000 in
theorem lc_26 {S : Nat × (Nat → Int32)} {L i : Nat} {Q : Option Value → mSt → Prop} (hS : S.1 - 1 = L) (hL : L ≤ 3072) (hi : i + 6 ≤ L) (K : ∀ s, INV s → mW (mMC mT (20)) S (mAtL P_L_law) (some .boolean) Q 982 [some (.ref 120), some (.ref 0), some (.ref 53), some (.int (nI i))] [] s) (st : mSt) (hI : INV st) : mW (mMC mT (20)) S (mAtL P_L_law) (some .boolean) Q 922 [some (.ref 120), some (.ref 0), some (.ref 53), some (.int (nI i))] [] st := by
  refine w_blk 5 (pc' := 927) (ls' := [some (.ref 120), some (.ref 0), some (.ref 53), some (.int (nI i))]) (sk' := [.int ((nI i) + 1), .ref 120, .ref 0]) (st' := st) (fun _ h => h) ?_
  rw [show ((nI i) + 1) = nI (i + 1) from nI_add i 1]
  refine w_sald (n := 0) (fs := []) rfl (by rw [hS]; exact vp_in_nI (n := i + 1) (N := L) (by omega) (by omega)) ?_
  rw [nI_clamp (show i + 1 < 2 ^ 31 by omega)]
  obtain ⟨r, s1, s2, h1, h2, hI2⟩ := k_back (S.2 (i + 1)) st hI
  refine w_callV (As := [.ref 0, .int (S.2 (i + 1))]) (rest := []) rfl rfl rfl (Nat.le_of_ble_eq_true rfl) (Nat.le_of_ble_eq_true rfl) (by first | exact Or.inl ⟨rfl, rfl⟩ | exact Or.inr ⟨rfl, rfl⟩) h1 ?_
  refine w_blk 5 (pc' := 936) (ls' := [some (.ref 120), some (.ref 0), some (.ref 53), some (.int (nI i))]) (sk' := [.int ((nI i) + 1), .ref 120, .ref 53, .int r]) (st' := s1) (fun _ h => h) ?_
  rw [show ((nI i) + 1) = nI (i + 1) from nI_add i 1]
  refine w_sald (n := 0) (fs := []) rfl (by rw [hS]; exact vp_in_nI (n := i + 1) (N := L) (by omega) (by omega)) ?_
  rw [nI_clamp (show i + 1 < 2 ^ 31 by omega)]
  refine w_callV (As := [.ref 53, .int (S.2 (i + 1))]) (rest := [.int r]) rfl rfl rfl (Nat.le_of_ble_eq_true rfl) (Nat.le_of_ble_eq_true rfl) (by first | exact Or.inl ⟨rfl, rfl⟩ | exact Or.inr ⟨rfl, rfl⟩) h2 ?_
  refine w_cmp_eq rfl (fun _ => ?_) (fun hno => absurd rfl hno)
  exact K s2 hI2
set_option maxRecDepth 20000 in
theorem lc_27 {S : Nat × (Nat → Int32)} {L i : Nat} {Q : Option Value → mSt → Prop} (hS : S.1 - 1 = L) (hL : L ≤ 3072) (hi : i + 6 ≤ L) (K : ∀ s, INV s → mW (mMC mT (20)) S (mAtL P_L_law) (some .boolean) Q 982 [some (.ref 120), some (.ref 0), some (.ref 53), some (.int (nI i))] [] s) (st : mSt) (hI : INV st) : mW (mMC mT (20)) S (mAtL P_L_law) (some .boolean) Q 945 [some (.ref 120), some (.ref 0), some (.ref 53), some (.int (nI i))] [] st := by
  refine w_blk 5 (pc' := 950) (ls' := [some (.ref 120), some (.ref 0), some (.ref 53), some (.int (nI i))]) (sk' := [.int ((nI i) + 1), .ref 120, .ref 0]) (st' := st) (fun _ h => h) ?_
  rw [show ((nI i) + 1) = nI (i + 1) from nI_add i 1]
  refine w_sald (n := 0) (fs := []) rfl (by rw [hS]; exact vp_in_nI (n := i + 1) (N := L) (by omega) (by omega)) ?_
  rw [nI_clamp (show i + 1 < 2 ^ 31 by omega)]
  obtain ⟨r, s1, s2, h1, h2, hI2⟩ := k_count (S.2 (i + 1)) st hI
  refine w_callV (As := [.ref 0, .int (S.2 (i + 1))]) (rest := []) rfl rfl rfl (Nat.le_of_ble_eq_true rfl) (Nat.le_of_ble_eq_true rfl) (by first | exact Or.inl ⟨rfl, rfl⟩ | exact Or.inr ⟨rfl, rfl⟩) h1 ?_
  refine w_blk 5 (pc' := 959) (ls' := [some (.ref 120), some (.ref 0), some (.ref 53), some (.int (nI i))]) (sk' := [.int ((nI i) + 1), .ref 120, .ref 53, .int r]) (st' := s1) (fun _ h => h) ?_
  rw [show ((nI i) + 1) = nI (i + 1) from nI_add i 1]
  refine w_sald (n := 0) (fs := []) rfl (by rw [hS]; exact vp_in_nI (n := i + 1) (N := L) (by omega) (by omega)) ?_
  rw [nI_clamp (show i + 1 < 2 ^ 31 by omega)]
  refine w_callV (As := [.ref 53, .int (S.2 (i + 1))]) (rest := [.int r]) rfl rfl rfl (Nat.le_of_ble_eq_true rfl) (Nat.le_of_ble_eq_true rfl) (by first | exact Or.inl ⟨rfl, rfl⟩ | exact Or.inr ⟨rfl, rfl⟩) h2 ?_
  refine w_cmp_eq rfl (fun _ => ?_) (fun hno => absurd rfl hno)
  exact K s2 hI2
set_option maxRecDepth 20000 in
theorem lc_28 {S : Nat × (Nat → Int32)} {L i : Nat} {Q : Option Value → mSt → Prop} (hS : S.1 - 1 = L) (hL : L ≤ 3072) (hi : i + 6 ≤ L) (K : ∀ s, INV s → mW (mMC mT (20)) S (mAtL P_L_law) (some .boolean) Q 982 [some (.ref 120), some (.ref 0), some (.ref 53), some (.int (nI i))] [] s) (st : mSt) (hI : INV st) : mW (mMC mT (20)) S (mAtL P_L_law) (some .boolean) Q 968 [some (.ref 120), some (.ref 0), some (.ref 53), some (.int (nI i))] [] st := by
  refine w_blk 1 (pc' := 969) (ls' := [some (.ref 120), some (.ref 0), some (.ref 53), some (.int (nI i))]) (sk' := [.ref 0]) (st' := st) (fun _ h => h) ?_
  obtain ⟨r, s1, s2, h1, h2, hI2⟩ := k_trace st hI
  refine w_callV (As := [.ref 0]) (rest := []) rfl rfl rfl (Nat.le_of_ble_eq_true rfl) (Nat.le_of_ble_eq_true rfl) (by first | exact Or.inl ⟨rfl, rfl⟩ | exact Or.inr ⟨rfl, rfl⟩) h1 ?_
  refine w_blk 1 (pc' := 973) (ls' := [some (.ref 120), some (.ref 0), some (.ref 53), some (.int (nI i))]) (sk' := [.ref 53, .long r]) (st' := s1) (fun _ h => h) ?_
  refine w_callV (As := [.ref 53]) (rest := [.long r]) rfl rfl rfl (Nat.le_of_ble_eq_true rfl) (Nat.le_of_ble_eq_true rfl) (by first | exact Or.inl ⟨rfl, rfl⟩ | exact Or.inr ⟨rfl, rfl⟩) h2 ?_
  refine w_blk 1 (pc' := 977) (ls' := [some (.ref 120), some (.ref 0), some (.ref 53), some (.int (nI i))]) (sk' := [.int (lg_cmp r r)]) (st' := s2) (fun _ h => h) ?_
  refine w_if_eq rfl (fun _ => ?_) (fun hno => absurd ((lg_cmp_eq _ _).mpr rfl) hno)
  exact K s2 hI2
set_option maxRecDepth 20000 in
theorem law_mini {S : Nat × (Nat → Int32)} {L : Nat} {Q : Option Value → mSt → Prop} (hS : S.1 - 1 = L) (hS0 : 0 < S.1) (hL : L ≤ 3072) (hq : ∀ s, Q (some (.int 1)) s) : ∀ (f i : Nat) (st : mSt), i ≤ L → L < i + f → INV st → mW (mMC mT (20)) S (mAtL P_L_law) (some .boolean) Q 18 [some (.ref 120), some (.ref 0), some (.ref 53), some (.int (nI i))] [] st := by
  intro f
  induction f with
  | zero => exact fun i st h1 h2 _ => absurd h2 (by omega)
  | succ f ih =>
    intro i st hiL hf hI
    refine w_blk 2 (pc' := 20) (ls' := [some (.ref 120), some (.ref 0), some (.ref 53), some (.int (nI i))]) (sk' := [.ref 120, .int (nI i)]) (st' := st) (fun _ h => h) ?_
    refine w_slen rfl hS0 ?_
    rw [hS]
    show mW (mMC mT (20)) S (mAtL P_L_law) (some .boolean) Q 21 [some (.ref 120), some (.ref 0), some (.ref 53), some (.int (nI i))] [.int (nI L), .int (nI i)] st
    refine w_blk 1 (pc' := 23) (ls' := [some (.ref 120), some (.ref 0), some (.ref 53), some (.int (nI i))]) (sk' := [.int 6, .int (nI L), .int (nI i)]) (st' := st) (fun _ h => h) ?_
    obtain ⟨z, hz⟩ : ∃ z, nI L - 6 = z := ⟨_, rfl⟩
    have hzt : z.toInt = (L : Int) - 6 := by rw [← hz]; exact pk_sub_toInt (a := L) (b := 6) (by omega) (by decide)
    refine w_isub rfl hz ?_
    have hit := nI_toInt (show i < 2 ^ 31 by omega)
    refine w_cmp_gt rfl (fun h => ?_) (fun h => ?_)
    · refine w_blk 1 (pc' := 989) (ls' := [some (.ref 120), some (.ref 0), some (.ref 53), some (.int (nI i))]) (sk' := [.int 1]) (st' := st) (fun _ h => h) ?_
      exact w_iret rfl rfl rfl (hq _)
    · have hi6 : i + 6 ≤ L := by
        have h9 : ¬ z.toInt < (nI i).toInt := fun e => h (Int32.lt_iff_toInt_lt.mpr e)
        omega
      have K : ∀ s, INV s → mW (mMC mT (20)) S (mAtL P_L_law) (some .boolean) Q 982 [some (.ref 120), some (.ref 0), some (.ref 53), some (.int (nI i))] [] s := by
        intro s hI2
        refine w_blk 1 (pc' := 985) (ls' := [some (.ref 120), some (.ref 0), some (.ref 53), some (.int ((nI i) + 6))]) (sk' := []) (st' := s) (fun _ h => h) ?_
        rw [show ((nI i) + 6) = nI (i + 6) from nI_add i 6]
        refine w_blk 1 (pc' := 18) (ls' := [some (.ref 120), some (.ref 0), some (.ref 53), some (.int (nI (i + 6)))]) (sk' := []) (st' := s) (fun _ h => h) ?_
        exact ih (i + 6) s (by omega) (by omega) hI2
      refine w_blk 2 (pc' := 29) (ls' := [some (.ref 120), some (.ref 0), some (.ref 53), some (.int (nI i))]) (sk' := [.int (nI i), .ref 120]) (st' := st) (fun _ h => h) ?_
      refine w_sald (n := 0) (fs := []) rfl (by rw [hS]; exact vp_in_nI (n := i) (N := L) (by omega) (by omega)) ?_
      rw [nI_clamp (show i < 2 ^ 31 by omega)]
      refine w_blk 1 (pc' := 32) (ls' := [some (.ref 120), some (.ref 0), some (.ref 53), some (.int (nI i))]) (sk' := [.int 31, .int (S.2 i)]) (st' := st) (fun _ h => h) ?_
      obtain ⟨k, hk, hke⟩ : ∃ k, k < 32 ∧ S.2 i &&& 31 = nI k := ⟨_, Nat.mod_lt _ (by decide), pk_and _ 5 (by decide)⟩
      refine w_blk 1 (pc' := 33) (ls' := [some (.ref 120), some (.ref 0), some (.ref 53), some (.int (nI i))]) (sk' := [.int ((S.2 i) &&& 31)]) (st' := st) (fun _ h => h) ?_
      rw [hke]
      by_cases e0 : k = 0
      · rw [e0]
        refine w_tblIn (o := 131) (t := 164) rfl (by decide) (by decide) rfl rfl ?_
        exact lc_0 hS hL hi6 K st hI
      by_cases e1 : k = 1
      · rw [e1]
        refine w_tblIn (o := 194) (t := 227) rfl (by decide) (by decide) rfl rfl ?_
        exact lc_1 hS hL hi6 K st hI
      by_cases e2 : k = 2
      · rw [e2]
        refine w_tblIn (o := 207) (t := 240) rfl (by decide) (by decide) rfl rfl ?_
        exact lc_2 hS hL hi6 K st hI
      by_cases e3 : k = 3
      · rw [e3]
        refine w_tblIn (o := 220) (t := 253) rfl (by decide) (by decide) rfl rfl ?_
        exact lc_3 hS hL hi6 K st hI
      by_cases e4 : k = 4
      · rw [e4]
        refine w_tblIn (o := 253) (t := 286) rfl (by decide) (by decide) rfl rfl ?_
        exact lc_4 hS hL hi6 K st hI
      by_cases e5 : k = 5
      · rw [e5]
        refine w_tblIn (o := 286) (t := 319) rfl (by decide) (by decide) rfl rfl ?_
        exact lc_5 hS hL hi6 K st hI
      by_cases e6 : k = 6
      · rw [e6]
        refine w_tblIn (o := 319) (t := 352) rfl (by decide) (by decide) rfl rfl ?_
        exact lc_6 hS hL hi6 K st hI
      by_cases e7 : k = 7
      · rw [e7]
        refine w_tblIn (o := 352) (t := 385) rfl (by decide) (by decide) rfl rfl ?_
        exact lc_7 hS hL hi6 K st hI
      by_cases e8 : k = 8
      · rw [e8]
        refine w_tblIn (o := 385) (t := 418) rfl (by decide) (by decide) rfl rfl ?_
        exact lc_8 hS hL hi6 K st hI
      by_cases e9 : k = 9
      · rw [e9]
        refine w_tblIn (o := 398) (t := 431) rfl (by decide) (by decide) rfl rfl ?_
        exact lc_9 hS hL hi6 K st hI
      by_cases e10 : k = 10
      · rw [e10]
        refine w_tblIn (o := 421) (t := 454) rfl (by decide) (by decide) rfl rfl ?_
        exact lc_10 hS hL hi6 K st hI
      by_cases e11 : k = 11
      · rw [e11]
        refine w_tblIn (o := 444) (t := 477) rfl (by decide) (by decide) rfl rfl ?_
        exact lc_11 hS hL hi6 K st hI
      by_cases e12 : k = 12
      · rw [e12]
        refine w_tblIn (o := 457) (t := 490) rfl (by decide) (by decide) rfl rfl ?_
        exact lc_12 hS hL hi6 K st hI
      by_cases e13 : k = 13
      · rw [e13]
        refine w_tblIn (o := 470) (t := 503) rfl (by decide) (by decide) rfl rfl ?_
        exact lc_13 hS hL hi6 K st hI
      by_cases e14 : k = 14
      · rw [e14]
        refine w_tblIn (o := 493) (t := 526) rfl (by decide) (by decide) rfl rfl ?_
        exact lc_14 hS hL hi6 K st hI
      by_cases e15 : k = 15
      · rw [e15]
        refine w_tblIn (o := 516) (t := 549) rfl (by decide) (by decide) rfl rfl ?_
        exact lc_15 hS hL hi6 K st hI
      by_cases e16 : k = 16
      · rw [e16]
        refine w_tblIn (o := 559) (t := 592) rfl (by decide) (by decide) rfl rfl ?_
        exact lc_16 hS hL hi6 K st hI
      by_cases e17 : k = 17
      · rw [e17]
        refine w_tblIn (o := 622) (t := 655) rfl (by decide) (by decide) rfl rfl ?_
        exact lc_17 hS hL hi6 K st hI
      by_cases e18 : k = 18
      · rw [e18]
        refine w_tblIn (o := 675) (t := 708) rfl (by decide) (by decide) rfl rfl ?_
        exact lc_18 hS hL hi6 K st hI
      by_cases e19 : k = 19
      · rw [e19]
        refine w_tblIn (o := 718) (t := 751) rfl (by decide) (by decide) rfl rfl ?_
        exact lc_19 hS hL hi6 K st hI
      by_cases e20 : k = 20
      · rw [e20]
        refine w_tblIn (o := 741) (t := 774) rfl (by decide) (by decide) rfl rfl ?_
        exact lc_20 hS hL hi6 K st hI
      by_cases e21 : k = 21
      · rw [e21]
        refine w_tblIn (o := 754) (t := 787) rfl (by decide) (by decide) rfl rfl ?_
        exact lc_21 hS hL hi6 K st hI
      by_cases e22 : k = 22
      · rw [e22]
        refine w_tblIn (o := 767) (t := 800) rfl (by decide) (by decide) rfl rfl ?_
        exact lc_22 hS hL hi6 K st hI
      by_cases e23 : k = 23
      · rw [e23]
        refine w_tblIn (o := 810) (t := 843) rfl (by decide) (by decide) rfl rfl ?_
        exact lc_23 hS hL hi6 K st hI
      by_cases e24 : k = 24
      · rw [e24]
        refine w_tblIn (o := 833) (t := 866) rfl (by decide) (by decide) rfl rfl ?_
        exact lc_24 hS hL hi6 K st hI
      by_cases e25 : k = 25
      · rw [e25]
        refine w_tblIn (o := 866) (t := 899) rfl (by decide) (by decide) rfl rfl ?_
        exact lc_25 hS hL hi6 K st hI
      by_cases e26 : k = 26
      · rw [e26]
        refine w_tblIn (o := 889) (t := 922) rfl (by decide) (by decide) rfl rfl ?_
        exact lc_26 hS hL hi6 K st hI
      by_cases e27 : k = 27
      · rw [e27]
        refine w_tblIn (o := 912) (t := 945) rfl (by decide) (by decide) rfl rfl ?_
        exact lc_27 hS hL hi6 K st hI
      by_cases e28 : k = 28
      · rw [e28]
        refine w_tblIn (o := 935) (t := 968) rfl (by decide) (by decide) rfl rfl ?_
        exact lc_28 hS hL hi6 K st hI
      refine w_tblOut (t := 982) rfl (Or.inr (by rw [nI_toInt (show k < 2 ^ 31 by omega)]; omega)) rfl ?_
      exact K st hI
