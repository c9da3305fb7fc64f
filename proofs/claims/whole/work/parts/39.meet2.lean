/-! MEETING: the walks -/
set_option maxRecDepth 20000 in
/-- clodsOf(y) -/
theorem c_clodsK_5 (d : Nat) (n : Nat → Nat) (c : Nat → Nat → Nat) (y : Nat) (st : mSt) (hX : X5 st n c) (hB : CB n c) (hy : y < n 2) : mMC mT (d + 2) 28 [.ref 5, .int (nI y)] st (some (.int (nI (cl c y)))) st := by
  refine mI_X1_clodsOf (d := d + 1) (Nat.le_of_ble_eq_true rfl) (fun Q hq => ?_)
  show mW (mMC mT (d + 1)) (0, fun _ => 0) (mAtL P_X1_clodsOf) (some .int) Q 0 [some (.ref 5), some (.int (nI y))] [] st
  have hyk := hB.2.2.2.2.2 y hy
  have hy8 := hB.2.2.1
  refine w_blk 3 (pc' := 5) (ls' := [some (.ref 5), some (.int (nI y))]) (sk' := [.int (nI y), .ref 11]) (st' := st) (fun _ h => h) ?_
  refine w_callS (As := [.ref 11, .int (nI y)]) (rest := []) rfl rfl rfl (Nat.le_of_ble_eq_true rfl) (Nat.le_of_ble_eq_true rfl) (c_cellK (d + 0) 11 8 y st (by omega) (by decide) rfl) ?_
  rw [(hX.2.2.2.2.2 y (by omega)).1]
  refine w_blk 3 (pc' := 13) (ls' := [some (.ref 5), some (.int (nI y))]) (sk' := [.int (nI y), .ref 12, .int (nI (c 5 y))]) (st' := st) (fun _ h => h) ?_
  refine w_callS (As := [.ref 12, .int (nI y)]) (rest := [.int (nI (c 5 y))]) rfl rfl rfl (Nat.le_of_ble_eq_true rfl) (Nat.le_of_ble_eq_true rfl) (c_cellK (d + 0) 12 8 y st (by omega) (by decide) rfl) ?_
  rw [(hX.2.2.2.2.2 y (by omega)).2]
  refine w_blk 1 (pc' := 17) (ls' := [some (.ref 5), some (.int (nI y))]) (sk' := [.int ((nI (c 5 y)) * (nI (c 6 y)))]) (st' := st) (fun _ h => h) ?_
  rw [show ((nI (c 5 y)) * (nI (c 6 y))) = nI ((c 5 y) * (c 6 y)) from pk_mul (c 5 y) (c 6 y)]
  exact w_iret rfl rfl rfl hq
set_option maxRecDepth 20000 in
/-- clodsOf(y) -/
theorem c_clodsK_13 (d : Nat) (n : Nat → Nat) (c : Nat → Nat → Nat) (y : Nat) (st : mSt) (hX : X13 st n c) (hB : CB n c) (hy : y < n 2) : mMC mT (d + 2) 28 [.ref 13, .int (nI y)] st (some (.int (nI (cl c y)))) st := by
  refine mI_X1_clodsOf (d := d + 1) (Nat.le_of_ble_eq_true rfl) (fun Q hq => ?_)
  show mW (mMC mT (d + 1)) (0, fun _ => 0) (mAtL P_X1_clodsOf) (some .int) Q 0 [some (.ref 13), some (.int (nI y))] [] st
  have hyk := hB.2.2.2.2.2 y hy
  have hy8 := hB.2.2.1
  refine w_blk 3 (pc' := 5) (ls' := [some (.ref 13), some (.int (nI y))]) (sk' := [.int (nI y), .ref 19]) (st' := st) (fun _ h => h) ?_
  refine w_callS (As := [.ref 19, .int (nI y)]) (rest := []) rfl rfl rfl (Nat.le_of_ble_eq_true rfl) (Nat.le_of_ble_eq_true rfl) (c_cellK (d + 0) 19 8 y st (by omega) (by decide) rfl) ?_
  rw [(hX.2.2.2.2.2 y (by omega)).1]
  refine w_blk 3 (pc' := 13) (ls' := [some (.ref 13), some (.int (nI y))]) (sk' := [.int (nI y), .ref 20, .int (nI (c 5 y))]) (st' := st) (fun _ h => h) ?_
  refine w_callS (As := [.ref 20, .int (nI y)]) (rest := [.int (nI (c 5 y))]) rfl rfl rfl (Nat.le_of_ble_eq_true rfl) (Nat.le_of_ble_eq_true rfl) (c_cellK (d + 0) 20 8 y st (by omega) (by decide) rfl) ?_
  rw [(hX.2.2.2.2.2 y (by omega)).2]
  refine w_blk 1 (pc' := 17) (ls' := [some (.ref 13), some (.int (nI y))]) (sk' := [.int ((nI (c 5 y)) * (nI (c 6 y)))]) (st' := st) (fun _ h => h) ?_
  rw [show ((nI (c 5 y)) * (nI (c 6 y))) = nI ((c 5 y) * (c 6 y)) from pk_mul (c 5 y) (c 6 y)]
  exact w_iret rfl rfl rfl hq
set_option maxRecDepth 20000 in
/-- allClods() -/
theorem c_allClods_5 (d : Nat) (n : Nat → Nat) (c : Nat → Nat → Nat) (st : mSt) (hX : X5 st n c) (hB : CB n c) : mMC mT (d + 3) 29 [.ref 5] st (some (.int (nI (sm (cl c) (n 2))))) st := by
  refine mI_X1_allClods (d := d + 2) (Nat.le_of_ble_eq_true rfl) (fun Q hq => ?_)
  show mW (mMC mT (d + 2)) (0, fun _ => 0) (mAtL P_X1_allClods) (some .int) Q 0 [some (.ref 5), none, none] [] st
  obtain ⟨hb0, hb1, hb2, hbd, hbs, hby⟩ := id hB
  refine w_blk 4 (pc' := 4) (ls' := [some (.ref 5), some (.int 0), some (.int 0)]) (sk' := []) (st' := st) (fun _ h => h) ?_
  have key : ∀ (m k : Nat), k + m = n 2 → mW (mMC mT (d + 2)) (0, fun _ => 0) (mAtL P_X1_allClods) (some .int) Q 4 [some (.ref 5), some (.int (nI (sm (cl c) k))), some (.int (nI k))] [] st := by
    intro m
    induction m with
    | zero =>
      intro k hk
      obtain rfl : n 2 = k := by omega
      refine w_blk 3 (pc' := 9) (ls' := [some (.ref 5), some (.int (nI (sm (cl c) (n 2)))), some (.int (nI (n 2)))]) (sk' := [.int (st.1 5 2), .int (nI (n 2))]) (st' := st) (fun _ h => h) ?_
      rw [hX.2.2.1]
      refine w_cmp_ge rfl (fun _ => ?_) (fun hno => absurd (Int32.le_refl _) hno)
      refine w_blk 1 (pc' := 27) (ls' := [some (.ref 5), some (.int (nI (sm (cl c) (n 2)))), some (.int (nI (n 2)))]) (sk' := [.int (nI (sm (cl c) (n 2)))]) (st' := st) (fun _ h => h) ?_
      exact w_iret rfl rfl rfl hq
    | succ m ih =>
      intro k hk
      have hk2 : k < n 2 := by omega
      refine w_blk 3 (pc' := 9) (ls' := [some (.ref 5), some (.int (nI (sm (cl c) k))), some (.int (nI k))]) (sk' := [.int (st.1 5 2), .int (nI k)]) (st' := st) (fun _ h => h) ?_
      rw [hX.2.2.1]
      refine w_cmp_ge rfl (fun hno => absurd hno (nI_ge hk2 (by omega))) (fun _ => ?_)
      refine w_blk 3 (pc' := 15) (ls' := [some (.ref 5), some (.int (nI (sm (cl c) k))), some (.int (nI k))]) (sk' := [.int (nI k), .ref 5, .int (nI (sm (cl c) k))]) (st' := st) (fun _ h => h) ?_
      refine w_callV (As := [.ref 5, .int (nI k)]) (rest := [.int (nI (sm (cl c) k))]) rfl rfl rfl (Nat.le_of_ble_eq_true rfl) (Nat.le_of_ble_eq_true rfl) (by first | exact Or.inl ⟨rfl, rfl⟩ | exact Or.inr ⟨rfl, rfl⟩) (c_clodsK_5 (d + 0) n c k st hX hB (by omega)) ?_
      refine w_blk 1 (pc' := 19) (ls' := [some (.ref 5), some (.int (nI (sm (cl c) k))), some (.int (nI k))]) (sk' := [.int ((nI (sm (cl c) k)) + (nI (cl c k)))]) (st' := st) (fun _ h => h) ?_
      rw [show ((nI (sm (cl c) k)) + (nI (cl c k))) = nI ((sm (cl c) k) + (cl c k)) from nI_add (sm (cl c) k) (cl c k)]
      refine w_blk 2 (pc' := 23) (ls' := [some (.ref 5), some (.int (nI ((sm (cl c) k) + (cl c k)))), some (.int ((nI k) + 1))]) (sk' := []) (st' := st) (fun _ h => h) ?_
      rw [show ((nI k) + 1) = nI (k + 1) from nI_add k 1]
      refine w_blk 1 (pc' := 4) (ls' := [some (.ref 5), some (.int (nI ((sm (cl c) k) + (cl c k)))), some (.int (nI (k + 1)))]) (sk' := []) (st' := st) (fun _ h => h) ?_
      exact ih (k + 1) (by omega)
  exact key (n 2 - 0) 0 (by omega)
set_option maxRecDepth 20000 in
/-- allClods() -/
theorem c_allClods_13 (d : Nat) (n : Nat → Nat) (c : Nat → Nat → Nat) (st : mSt) (hX : X13 st n c) (hB : CB n c) : mMC mT (d + 3) 29 [.ref 13] st (some (.int (nI (sm (cl c) (n 2))))) st := by
  refine mI_X1_allClods (d := d + 2) (Nat.le_of_ble_eq_true rfl) (fun Q hq => ?_)
  show mW (mMC mT (d + 2)) (0, fun _ => 0) (mAtL P_X1_allClods) (some .int) Q 0 [some (.ref 13), none, none] [] st
  obtain ⟨hb0, hb1, hb2, hbd, hbs, hby⟩ := id hB
  refine w_blk 4 (pc' := 4) (ls' := [some (.ref 13), some (.int 0), some (.int 0)]) (sk' := []) (st' := st) (fun _ h => h) ?_
  have key : ∀ (m k : Nat), k + m = n 2 → mW (mMC mT (d + 2)) (0, fun _ => 0) (mAtL P_X1_allClods) (some .int) Q 4 [some (.ref 13), some (.int (nI (sm (cl c) k))), some (.int (nI k))] [] st := by
    intro m
    induction m with
    | zero =>
      intro k hk
      obtain rfl : n 2 = k := by omega
      refine w_blk 3 (pc' := 9) (ls' := [some (.ref 13), some (.int (nI (sm (cl c) (n 2)))), some (.int (nI (n 2)))]) (sk' := [.int (st.1 13 2), .int (nI (n 2))]) (st' := st) (fun _ h => h) ?_
      rw [hX.2.2.1]
      refine w_cmp_ge rfl (fun _ => ?_) (fun hno => absurd (Int32.le_refl _) hno)
      refine w_blk 1 (pc' := 27) (ls' := [some (.ref 13), some (.int (nI (sm (cl c) (n 2)))), some (.int (nI (n 2)))]) (sk' := [.int (nI (sm (cl c) (n 2)))]) (st' := st) (fun _ h => h) ?_
      exact w_iret rfl rfl rfl hq
    | succ m ih =>
      intro k hk
      have hk2 : k < n 2 := by omega
      refine w_blk 3 (pc' := 9) (ls' := [some (.ref 13), some (.int (nI (sm (cl c) k))), some (.int (nI k))]) (sk' := [.int (st.1 13 2), .int (nI k)]) (st' := st) (fun _ h => h) ?_
      rw [hX.2.2.1]
      refine w_cmp_ge rfl (fun hno => absurd hno (nI_ge hk2 (by omega))) (fun _ => ?_)
      refine w_blk 3 (pc' := 15) (ls' := [some (.ref 13), some (.int (nI (sm (cl c) k))), some (.int (nI k))]) (sk' := [.int (nI k), .ref 13, .int (nI (sm (cl c) k))]) (st' := st) (fun _ h => h) ?_
      refine w_callV (As := [.ref 13, .int (nI k)]) (rest := [.int (nI (sm (cl c) k))]) rfl rfl rfl (Nat.le_of_ble_eq_true rfl) (Nat.le_of_ble_eq_true rfl) (by first | exact Or.inl ⟨rfl, rfl⟩ | exact Or.inr ⟨rfl, rfl⟩) (c_clodsK_13 (d + 0) n c k st hX hB (by omega)) ?_
      refine w_blk 1 (pc' := 19) (ls' := [some (.ref 13), some (.int (nI (sm (cl c) k))), some (.int (nI k))]) (sk' := [.int ((nI (sm (cl c) k)) + (nI (cl c k)))]) (st' := st) (fun _ h => h) ?_
      rw [show ((nI (sm (cl c) k)) + (nI (cl c k))) = nI ((sm (cl c) k) + (cl c k)) from nI_add (sm (cl c) k) (cl c k)]
      refine w_blk 2 (pc' := 23) (ls' := [some (.ref 13), some (.int (nI ((sm (cl c) k) + (cl c k)))), some (.int ((nI k) + 1))]) (sk' := []) (st' := st) (fun _ h => h) ?_
      rw [show ((nI k) + 1) = nI (k + 1) from nI_add k 1]
      refine w_blk 1 (pc' := 4) (ls' := [some (.ref 13), some (.int (nI ((sm (cl c) k) + (cl c k)))), some (.int (nI (k + 1)))]) (sk' := []) (st' := st) (fun _ h => h) ?_
      exact ih (k + 1) (by omega)
  exact key (n 2 - 0) 0 (by omega)
set_option maxRecDepth 20000 in
/-- yardOfClod(d) -/
theorem c_yoc_5 (d : Nat) (n : Nat → Nat) (c : Nat → Nat → Nat) (d0 : Nat) (st : mSt) (hX : X5 st n c) (hB : CB n c) (hd : d0 < (sm (cl c) (n 2))) : ∃ (y : Nat) (s : mSt), mMC mT (d + 3) 30 [.ref 5, .int (nI d0)] st (some (.int (nI y))) s ∧ YO c (n 2) d0 y ∧ st = s := by
  suffices H : ∀ Q : Option Value → mSt → Prop, (∀ (y : Nat) (s : mSt), (YO c (n 2) d0 y ∧ st = s) → Q (some (.int (nI y))) s) → mW (mMC mT (d + 2)) (0, fun _ => 0) (mAtL P_X1_yardOfClod) (some .int) Q 0 [some (.ref 5), some (.int (nI d0)), none, none] [] st by
    obtain ⟨_, _, ⟨y, s, rfl, rfl, hp⟩, hw⟩ := mW_ex (H (fun vv tt => ∃ (y : Nat) (s : mSt),  vv = some (.int (nI y)) ∧ s = tt ∧ YO c (n 2) d0 y ∧ st = s) (fun y s hp => ⟨y, s, rfl, rfl, hp⟩))
    exact ⟨y, s, mI_X1_yardOfClod (d := d + 2) (Nat.le_of_ble_eq_true rfl) hw, hp⟩
  intro Q hq
  obtain ⟨hb0, hb1, hb2, hbd, hbs, hby⟩ := id hB
  have hab := all_bd hB (n 2) (Nat.le_refl _)
  refine w_blk 4 (pc' := 4) (ls' := [some (.ref 5), some (.int (nI d0)), some (.int 0), some (.int 0)]) (sk' := []) (st' := st) (fun _ h => h) ?_
  suffices key : ∀ (m k : Nat), k + m = n 2 → sm (cl c) k ≤ d0 → mW (mMC mT (d + 2)) (0, fun _ => 0) (mAtL P_X1_yardOfClod) (some .int) Q 4 [some (.ref 5), some (.int (nI d0)), some (.int (nI (sm (cl c) k))), some (.int (nI k))] [] st from key (n 2) 0 (by omega) (Nat.zero_le _)
  intro m
  induction m with
  | zero =>
    intro k hk hle
    obtain rfl : n 2 = k := by omega
    exact absurd hle (by omega)
  | succ m ih =>
    intro k hk hle
    have hk2 : k < n 2 := by omega
    have hmo := sm_mono (f := cl c) (n 2) (show k + 1 ≤ n 2 by omega)
    have hst : sm (cl c) (k + 1) = sm (cl c) k + cl c k := rfl
    refine w_blk 3 (pc' := 9) (ls' := [some (.ref 5), some (.int (nI d0)), some (.int (nI (sm (cl c) k))), some (.int (nI k))]) (sk' := [.int (st.1 5 2), .int (nI k)]) (st' := st) (fun _ h => h) ?_
    rw [hX.2.2.1]
    refine w_cmp_ge rfl (fun hno => absurd hno (nI_ge hk2 (by omega))) (fun _ => ?_)
    refine w_blk 3 (pc' := 15) (ls' := [some (.ref 5), some (.int (nI d0)), some (.int (nI (sm (cl c) k))), some (.int (nI k))]) (sk' := [.int (nI k), .ref 5, .int (nI (sm (cl c) k))]) (st' := st) (fun _ h => h) ?_
    refine w_callV (As := [.ref 5, .int (nI k)]) (rest := [.int (nI (sm (cl c) k))]) rfl rfl rfl (Nat.le_of_ble_eq_true rfl) (Nat.le_of_ble_eq_true rfl) (by first | exact Or.inl ⟨rfl, rfl⟩ | exact Or.inr ⟨rfl, rfl⟩) (c_clodsK_5 (d + 0) n c k st hX hB (by omega)) ?_
    refine w_blk 1 (pc' := 19) (ls' := [some (.ref 5), some (.int (nI d0)), some (.int (nI (sm (cl c) k))), some (.int (nI k))]) (sk' := [.int ((nI (sm (cl c) k)) + (nI (cl c k)))]) (st' := st) (fun _ h => h) ?_
    rw [show ((nI (sm (cl c) k)) + (nI (cl c k))) = nI ((sm (cl c) k) + (cl c k)) from nI_add (sm (cl c) k) (cl c k)]
    refine w_blk 3 (pc' := 22) (ls' := [some (.ref 5), some (.int (nI d0)), some (.int (nI ((sm (cl c) k) + (cl c k)))), some (.int (nI k))]) (sk' := [.int (nI ((sm (cl c) k) + (cl c k))), .int (nI d0)]) (st' := st) (fun _ h => h) ?_
    refine w_cmp_ge rfl (fun h1 => ?_) (fun h1 => ?_)
    · replace h1 : (sm (cl c) k) + (cl c k) ≤ d0 := (nI_leI (a := ((sm (cl c) k) + (cl c k))) (b := d0) (by omega) (by omega)).mp h1
      refine w_blk 1 (pc' := 30) (ls' := [some (.ref 5), some (.int (nI d0)), some (.int (nI ((sm (cl c) k) + (cl c k)))), some (.int ((nI k) + 1))]) (sk' := []) (st' := st) (fun _ h => h) ?_
      rw [show ((nI k) + 1) = nI (k + 1) from nI_add k 1]
      refine w_blk 1 (pc' := 4) (ls' := [some (.ref 5), some (.int (nI d0)), some (.int (nI ((sm (cl c) k) + (cl c k)))), some (.int (nI (k + 1)))]) (sk' := []) (st' := st) (fun _ h => h) ?_
      exact ih (k + 1) (by omega) (by omega)
    · replace h1 : ¬ ((sm (cl c) k) + (cl c k) ≤ d0) := fun hh => h1 ((nI_leI (a := ((sm (cl c) k) + (cl c k))) (b := d0) (by omega) (by omega)).mpr hh)
      refine w_blk 1 (pc' := 26) (ls' := [some (.ref 5), some (.int (nI d0)), some (.int (nI ((sm (cl c) k) + (cl c k)))), some (.int (nI k))]) (sk' := [.int (nI k)]) (st' := st) (fun _ h => h) ?_
      exact w_iret rfl rfl rfl (hq k st ⟨⟨hk2, hle, by omega⟩, rfl⟩)
set_option maxRecDepth 20000 in
/-- yardOfClod(d) -/
theorem c_yoc_13 (d : Nat) (n : Nat → Nat) (c : Nat → Nat → Nat) (d0 : Nat) (st : mSt) (hX : X13 st n c) (hB : CB n c) (hd : d0 < (sm (cl c) (n 2))) : ∃ (y : Nat) (s : mSt), mMC mT (d + 3) 30 [.ref 13, .int (nI d0)] st (some (.int (nI y))) s ∧ YO c (n 2) d0 y ∧ st = s := by
  suffices H : ∀ Q : Option Value → mSt → Prop, (∀ (y : Nat) (s : mSt), (YO c (n 2) d0 y ∧ st = s) → Q (some (.int (nI y))) s) → mW (mMC mT (d + 2)) (0, fun _ => 0) (mAtL P_X1_yardOfClod) (some .int) Q 0 [some (.ref 13), some (.int (nI d0)), none, none] [] st by
    obtain ⟨_, _, ⟨y, s, rfl, rfl, hp⟩, hw⟩ := mW_ex (H (fun vv tt => ∃ (y : Nat) (s : mSt),  vv = some (.int (nI y)) ∧ s = tt ∧ YO c (n 2) d0 y ∧ st = s) (fun y s hp => ⟨y, s, rfl, rfl, hp⟩))
    exact ⟨y, s, mI_X1_yardOfClod (d := d + 2) (Nat.le_of_ble_eq_true rfl) hw, hp⟩
  intro Q hq
  obtain ⟨hb0, hb1, hb2, hbd, hbs, hby⟩ := id hB
  have hab := all_bd hB (n 2) (Nat.le_refl _)
  refine w_blk 4 (pc' := 4) (ls' := [some (.ref 13), some (.int (nI d0)), some (.int 0), some (.int 0)]) (sk' := []) (st' := st) (fun _ h => h) ?_
  suffices key : ∀ (m k : Nat), k + m = n 2 → sm (cl c) k ≤ d0 → mW (mMC mT (d + 2)) (0, fun _ => 0) (mAtL P_X1_yardOfClod) (some .int) Q 4 [some (.ref 13), some (.int (nI d0)), some (.int (nI (sm (cl c) k))), some (.int (nI k))] [] st from key (n 2) 0 (by omega) (Nat.zero_le _)
  intro m
  induction m with
  | zero =>
    intro k hk hle
    obtain rfl : n 2 = k := by omega
    exact absurd hle (by omega)
  | succ m ih =>
    intro k hk hle
    have hk2 : k < n 2 := by omega
    have hmo := sm_mono (f := cl c) (n 2) (show k + 1 ≤ n 2 by omega)
    have hst : sm (cl c) (k + 1) = sm (cl c) k + cl c k := rfl
    refine w_blk 3 (pc' := 9) (ls' := [some (.ref 13), some (.int (nI d0)), some (.int (nI (sm (cl c) k))), some (.int (nI k))]) (sk' := [.int (st.1 13 2), .int (nI k)]) (st' := st) (fun _ h => h) ?_
    rw [hX.2.2.1]
    refine w_cmp_ge rfl (fun hno => absurd hno (nI_ge hk2 (by omega))) (fun _ => ?_)
    refine w_blk 3 (pc' := 15) (ls' := [some (.ref 13), some (.int (nI d0)), some (.int (nI (sm (cl c) k))), some (.int (nI k))]) (sk' := [.int (nI k), .ref 13, .int (nI (sm (cl c) k))]) (st' := st) (fun _ h => h) ?_
    refine w_callV (As := [.ref 13, .int (nI k)]) (rest := [.int (nI (sm (cl c) k))]) rfl rfl rfl (Nat.le_of_ble_eq_true rfl) (Nat.le_of_ble_eq_true rfl) (by first | exact Or.inl ⟨rfl, rfl⟩ | exact Or.inr ⟨rfl, rfl⟩) (c_clodsK_13 (d + 0) n c k st hX hB (by omega)) ?_
    refine w_blk 1 (pc' := 19) (ls' := [some (.ref 13), some (.int (nI d0)), some (.int (nI (sm (cl c) k))), some (.int (nI k))]) (sk' := [.int ((nI (sm (cl c) k)) + (nI (cl c k)))]) (st' := st) (fun _ h => h) ?_
    rw [show ((nI (sm (cl c) k)) + (nI (cl c k))) = nI ((sm (cl c) k) + (cl c k)) from nI_add (sm (cl c) k) (cl c k)]
    refine w_blk 3 (pc' := 22) (ls' := [some (.ref 13), some (.int (nI d0)), some (.int (nI ((sm (cl c) k) + (cl c k)))), some (.int (nI k))]) (sk' := [.int (nI ((sm (cl c) k) + (cl c k))), .int (nI d0)]) (st' := st) (fun _ h => h) ?_
    refine w_cmp_ge rfl (fun h1 => ?_) (fun h1 => ?_)
    · replace h1 : (sm (cl c) k) + (cl c k) ≤ d0 := (nI_leI (a := ((sm (cl c) k) + (cl c k))) (b := d0) (by omega) (by omega)).mp h1
      refine w_blk 1 (pc' := 30) (ls' := [some (.ref 13), some (.int (nI d0)), some (.int (nI ((sm (cl c) k) + (cl c k)))), some (.int ((nI k) + 1))]) (sk' := []) (st' := st) (fun _ h => h) ?_
      rw [show ((nI k) + 1) = nI (k + 1) from nI_add k 1]
      refine w_blk 1 (pc' := 4) (ls' := [some (.ref 13), some (.int (nI d0)), some (.int (nI ((sm (cl c) k) + (cl c k)))), some (.int (nI (k + 1)))]) (sk' := []) (st' := st) (fun _ h => h) ?_
      exact ih (k + 1) (by omega) (by omega)
    · replace h1 : ¬ ((sm (cl c) k) + (cl c k) ≤ d0) := fun hh => h1 ((nI_leI (a := ((sm (cl c) k) + (cl c k))) (b := d0) (by omega) (by omega)).mpr hh)
      refine w_blk 1 (pc' := 26) (ls' := [some (.ref 13), some (.int (nI d0)), some (.int (nI ((sm (cl c) k) + (cl c k)))), some (.int (nI k))]) (sk' := [.int (nI k)]) (st' := st) (fun _ h => h) ?_
      exact w_iret rfl rfl rfl (hq k st ⟨⟨hk2, hle, by omega⟩, rfl⟩)
set_option maxRecDepth 20000 in
/-- dugBy(t) -/
theorem c_dugT (d : Nat) (a p b q t : Nat) (st : mSt) (hE : st.1 44 3 = nI a ∧ st.1 44 4 = nI p ∧ st.1 44 5 = nI b ∧ st.1 44 6 = nI q) (ha1 : 1 ≤ a) (ha9 : a ≤ 99) (hp1 : 1 ≤ p) (hp9 : p ≤ 99) (hb1 : 1 ≤ b) (hb9 : b ≤ 99) (hq1 : 1 ≤ q) (hq9 : q ≤ 99) (ht : t ≤ 705771) : mMC mT (d + 2) 44 [.ref 44, .int (nI t)] st (some (.int (nI (dgt a p b q t)))) st := by
  refine mI_X4_dugBy (d := d + 1) (Nat.le_of_ble_eq_true rfl) (fun Q hq => ?_)
  show mW (mMC mT (d + 1)) (0, fun _ => 0) (mAtL P_X4_dugBy) (some .int) Q 0 [some (.ref 44), some (.int (nI t))] [] st
  refine w_blk 2 (pc' := 4) (ls' := [some (.ref 44), some (.int (nI t))]) (sk' := [.int (st.1 44 3)]) (st' := st) (fun _ h => h) ?_
  rw [hE.1]
  refine w_blk 3 (pc' := 9) (ls' := [some (.ref 44), some (.int (nI t))]) (sk' := [.int (st.1 44 4), .int (nI t), .int (nI a)]) (st' := st) (fun _ h => h) ?_
  rw [hE.2.1]
  refine w_callS (As := [.int (nI t), .int (nI p)]) (rest := [.int (nI a)]) rfl rfl rfl (Nat.le_of_ble_eq_true rfl) (Nat.le_of_ble_eq_true rfl) (c_quotZ (d + 0) t p st (by omega) (by omega)) ?_
  refine w_blk 1 (pc' := 13) (ls' := [some (.ref 44), some (.int (nI t))]) (sk' := [.int ((nI a) * (nI (t / p)))]) (st' := st) (fun _ h => h) ?_
  rw [show ((nI a) * (nI (t / p))) = nI (a * (t / p)) from pk_mul a (t / p)]
  refine w_blk 2 (pc' := 17) (ls' := [some (.ref 44), some (.int (nI t))]) (sk' := [.int (st.1 44 5), .int (nI (a * (t / p)))]) (st' := st) (fun _ h => h) ?_
  rw [hE.2.2.1]
  refine w_blk 3 (pc' := 22) (ls' := [some (.ref 44), some (.int (nI t))]) (sk' := [.int (st.1 44 6), .int (nI t), .int (nI b), .int (nI (a * (t / p)))]) (st' := st) (fun _ h => h) ?_
  rw [hE.2.2.2]
  refine w_callS (As := [.int (nI t), .int (nI q)]) (rest := [.int (nI b), .int (nI (a * (t / p)))]) rfl rfl rfl (Nat.le_of_ble_eq_true rfl) (Nat.le_of_ble_eq_true rfl) (c_quotZ (d + 0) t q st (by omega) (by omega)) ?_
  refine w_blk 1 (pc' := 26) (ls' := [some (.ref 44), some (.int (nI t))]) (sk' := [.int ((nI b) * (nI (t / q))), .int (nI (a * (t / p)))]) (st' := st) (fun _ h => h) ?_
  rw [show ((nI b) * (nI (t / q))) = nI (b * (t / q)) from pk_mul b (t / q)]
  refine w_blk 1 (pc' := 27) (ls' := [some (.ref 44), some (.int (nI t))]) (sk' := [.int ((nI (a * (t / p))) + (nI (b * (t / q))))]) (st' := st) (fun _ h => h) ?_
  rw [show ((nI (a * (t / p))) + (nI (b * (t / q)))) = nI ((a * (t / p)) + (b * (t / q))) from nI_add (a * (t / p)) (b * (t / q))]
  exact w_iret rfl rfl rfl hq
set_option maxRecDepth 20000 in
/-- firstBeatWith(clods) -/
theorem c_firstBeat (d : Nat) (al a p b q : Nat) (st : mSt) (hE : st.1 44 3 = nI a ∧ st.1 44 4 = nI p ∧ st.1 44 5 = nI b ∧ st.1 44 6 = nI q) (ha1 : 1 ≤ a) (ha9 : a ≤ 99) (hp1 : 1 ≤ p) (hp9 : p ≤ 99) (hb1 : 1 ≤ b) (hb9 : b ≤ 99) (hq1 : 1 ≤ q) (hq9 : q ≤ 99) (hal1 : 1 ≤ al) (hal : al ≤ 7128) : ∃ (t : Nat) (s : mSt), mMC mT (d + 3) 43 [.ref 44, .int (nI al)] st (some (.int (nI t))) s ∧ MTt al a p b q t ∧ t ≤ 705771 ∧ st = s := by
  suffices H : ∀ Q : Option Value → mSt → Prop, (∀ (t : Nat) (s : mSt), (MTt al a p b q t ∧ t ≤ 705771 ∧ st = s) → Q (some (.int (nI t))) s) → mW (mMC mT (d + 2)) (0, fun _ => 0) (mAtL P_X4_firstBeatWith) (some .int) Q 0 [some (.ref 44), some (.int (nI al)), none, none, none, none] [] st by
    obtain ⟨_, _, ⟨t, s, rfl, rfl, hp⟩, hw⟩ := mW_ex (H (fun vv tt => ∃ (t : Nat) (s : mSt),  vv = some (.int (nI t)) ∧ s = tt ∧ MTt al a p b q t ∧ t ≤ 705771 ∧ st = s) (fun t s hp => ⟨t, s, rfl, rfl, hp⟩))
    exact ⟨t, s, mI_X4_firstBeatWith (d := d + 2) (Nat.le_of_ble_eq_true rfl) hw, hp⟩
  intro Q hq
  have hdv : al / a ≤ al := Nat.div_le_self _ _
  refine w_blk 5 (pc' := 7) (ls' := [some (.ref 44), some (.int (nI al)), some (.int 1), none, none, none]) (sk' := [.int (st.1 44 3), .int (nI al)]) (st' := st) (fun _ h => h) ?_
  rw [hE.1]
  refine w_callS (As := [.int (nI al), .int (nI a)]) (rest := []) rfl rfl rfl (Nat.le_of_ble_eq_true rfl) (Nat.le_of_ble_eq_true rfl) (c_quotZ (d + 1) al a st (by omega) (by omega)) ?_
  refine w_blk 2 (pc' := 12) (ls' := [some (.ref 44), some (.int (nI al)), some (.int 1), none, none, none]) (sk' := [.int ((nI (al / a)) + 1)]) (st' := st) (fun _ h => h) ?_
  rw [show ((nI (al / a)) + 1) = nI ((al / a) + 1) from nI_add (al / a) 1]
  refine w_blk 2 (pc' := 16) (ls' := [some (.ref 44), some (.int (nI al)), some (.int 1), none, none, none]) (sk' := [.int (st.1 44 4), .int (nI ((al / a) + 1))]) (st' := st) (fun _ h => h) ?_
  rw [hE.2.1]
  refine w_blk 1 (pc' := 17) (ls' := [some (.ref 44), some (.int (nI al)), some (.int 1), none, none, none]) (sk' := [.int ((nI ((al / a) + 1)) * (nI p))]) (st' := st) (fun _ h => h) ?_
  rw [show ((nI ((al / a) + 1)) * (nI p)) = nI (((al / a) + 1) * p) from pk_mul ((al / a) + 1) p]
  refine w_blk 3 (pc' := 21) (ls' := [some (.ref 44), some (.int (nI al)), some (.int 1), some (.int (nI (((al / a) + 1) * p))), some (.int 0), none]) (sk' := []) (st' := st) (fun _ h => h) ?_
  suffices key : ∀ (m h lo hi : Nat) (l5 : Option Value), h + m = 32 → 1 ≤ lo → lo ≤ hi → hi ≤ 705771 → (hi - lo) * 2 ^ h < 1048576 → al ≤ dgt a p b q hi → dgt a p b q (lo - 1) < al → mW (mMC mT (d + 2)) (0, fun _ => 0) (mAtL P_X4_firstBeatWith) (some .int) Q 21 [some (.ref 44), some (.int (nI al)), some (.int (nI lo)), some (.int (nI hi)), some (.int (nI h)), l5] [] st from key 32 0 1 _ none (by omega) (by omega) (Nat.mul_pos (Nat.succ_pos _) hp1) (high_bd hal hp9) (by have h9 := high_bd (a := a) hal hp9; rw [Nat.pow_zero, Nat.mul_one]; exact Nat.lt_of_le_of_lt (Nat.le_trans (Nat.sub_le _ _) h9) (by decide)) (high_ok ha1 hp1) (by rw [Nat.sub_self, dgt_0]; omega)
  intro m
  induction m with
  | zero =>
    intro h lo hi l5 hm h1 h2 h3 h4 h5 h6
    obtain rfl : h = 32 := by omega
    have he : lo = hi := by omega
    subst he
    refine w_blk 2 (pc' := 25) (ls' := [some (.ref 44), some (.int (nI al)), some (.int (nI lo)), some (.int (nI lo)), some (.int (nI 32)), l5]) (sk' := [.int 32, .int (nI 32)]) (st' := st) (fun _ h => h) ?_
    refine w_cmp_ge rfl (fun _ => ?_) (fun hno => absurd (by decide) hno)
    refine w_blk 1 (pc' := 70) (ls' := [some (.ref 44), some (.int (nI al)), some (.int (nI lo)), some (.int (nI lo)), some (.int (nI 32)), l5]) (sk' := [.int (nI lo)]) (st' := st) (fun _ h => h) ?_
    exact w_iret rfl rfl rfl (hq lo st ⟨⟨h1, h5, h6⟩, h3, rfl⟩)
  | succ m ih =>
    intro h lo hi l5 hm h1 h2 h3 h4 h5 h6
    refine w_blk 2 (pc' := 25) (ls' := [some (.ref 44), some (.int (nI al)), some (.int (nI lo)), some (.int (nI hi)), some (.int (nI h)), l5]) (sk' := [.int 32, .int (nI h)]) (st' := st) (fun _ h => h) ?_
    refine w_cmp_ge rfl (fun hno => absurd hno (nI_ge (a := h) (b := 32) (by omega) (by omega))) (fun _ => ?_)
    refine w_blk 2 (pc' := 30) (ls' := [some (.ref 44), some (.int (nI al)), some (.int (nI lo)), some (.int (nI hi)), some (.int (nI h)), l5]) (sk' := [.int (nI hi), .int (nI lo)]) (st' := st) (fun _ h => h) ?_
    refine w_cmp_ge rfl (fun g1 => ?_) (fun g1 => ?_)
    · replace g1 : hi ≤ lo := (nI_leI (a := hi) (b := lo) (by omega) (by omega)).mp g1
      refine w_blk 1 (pc' := 70) (ls' := [some (.ref 44), some (.int (nI al)), some (.int (nI lo)), some (.int (nI hi)), some (.int (nI h)), l5]) (sk' := [.int (nI lo)]) (st' := st) (fun _ h => h) ?_
      have he : lo = hi := by omega
      subst he
      exact w_iret rfl rfl rfl (hq lo st ⟨⟨h1, h5, h6⟩, h3, rfl⟩)
    · replace g1 : ¬ (hi ≤ lo) := fun hh => g1 ((nI_leI (a := hi) (b := lo) (by omega) (by omega)).mpr hh)
      refine w_blk 4 (pc' := 37) (ls' := [some (.ref 44), some (.int (nI al)), some (.int (nI lo)), some (.int (nI hi)), some (.int (nI h)), l5]) (sk' := [.int ((nI hi) - (nI lo)), .int (nI lo)]) (st' := st) (fun _ h => h) ?_
      rw [show ((nI hi) - (nI lo)) = nI (hi - lo) from pk_sub (a := hi) (b := lo) (by omega)]
      refine w_blk 1 (pc' := 38) (ls' := [some (.ref 44), some (.int (nI al)), some (.int (nI lo)), some (.int (nI hi)), some (.int (nI h)), l5]) (sk' := [.int 2, .int (nI (hi - lo)), .int (nI lo)]) (st' := st) (fun _ h => h) ?_
      refine w_div rfl (by decide) ?_
      rw [show ((nI (hi - lo)) / 2) = nI ((hi - lo) / 2) from pk_div (a := hi - lo) (d := 2) (by omega) (by omega) (by omega)]
      refine w_blk 1 (pc' := 40) (ls' := [some (.ref 44), some (.int (nI al)), some (.int (nI lo)), some (.int (nI hi)), some (.int (nI h)), l5]) (sk' := [.int ((nI lo) + (nI ((hi - lo) / 2)))]) (st' := st) (fun _ h => h) ?_
      rw [show ((nI lo) + (nI ((hi - lo) / 2))) = nI (lo + ((hi - lo) / 2)) from nI_add lo ((hi - lo) / 2)]
      refine w_blk 3 (pc' := 45) (ls' := [some (.ref 44), some (.int (nI al)), some (.int (nI lo)), some (.int (nI hi)), some (.int (nI h)), some (.int (nI (lo + ((hi - lo) / 2))))]) (sk' := [.int (nI (lo + ((hi - lo) / 2))), .ref 44]) (st' := st) (fun _ h => h) ?_
      have hmid : dgt a p b q (lo + (hi - lo) / 2) ≤ 139742658 := by have h9 := dgt_bd (p := p) (q := q) (t := lo + (hi - lo) / 2) (B := 705771) ha9 hb9 (by omega); unfold dgt; omega
      refine w_callV (As := [.ref 44, .int (nI (lo + ((hi - lo) / 2)))]) (rest := []) rfl rfl rfl (Nat.le_of_ble_eq_true rfl) (Nat.le_of_ble_eq_true rfl) (by first | exact Or.inl ⟨rfl, rfl⟩ | exact Or.inr ⟨rfl, rfl⟩) (c_dugT (d + 0) a p b q (lo + ((hi - lo) / 2)) st hE ha1 ha9 hp1 hp9 hb1 hb9 hq1 hq9 (by omega)) ?_
      refine w_blk 1 (pc' := 49) (ls' := [some (.ref 44), some (.int (nI al)), some (.int (nI lo)), some (.int (nI hi)), some (.int (nI h)), some (.int (nI (lo + ((hi - lo) / 2))))]) (sk' := [.int (nI al), .int (nI (dgt a p b q (lo + ((hi - lo) / 2))))]) (st' := st) (fun _ h => h) ?_
      refine w_cmp_lt rfl (fun g2 => ?_) (fun g2 => ?_)
      · replace g2 : dgt a p b q (lo + ((hi - lo) / 2)) < al := (nI_ltI (a := (dgt a p b q (lo + ((hi - lo) / 2)))) (b := al) (by omega) (by omega)).mp g2
        refine w_blk 3 (pc' := 62) (ls' := [some (.ref 44), some (.int (nI al)), some (.int (nI lo)), some (.int (nI hi)), some (.int (nI h)), some (.int (nI (lo + ((hi - lo) / 2))))]) (sk' := [.int ((nI (lo + ((hi - lo) / 2))) + 1)]) (st' := st) (fun _ h => h) ?_
        rw [show ((nI (lo + ((hi - lo) / 2))) + 1) = nI ((lo + ((hi - lo) / 2)) + 1) from nI_add (lo + ((hi - lo) / 2)) 1]
        refine w_blk 2 (pc' := 66) (ls' := [some (.ref 44), some (.int (nI al)), some (.int (nI ((lo + ((hi - lo) / 2)) + 1))), some (.int (nI hi)), some (.int ((nI h) + 1)), some (.int (nI (lo + ((hi - lo) / 2))))]) (sk' := []) (st' := st) (fun _ h => h) ?_
        rw [show ((nI h) + 1) = nI (h + 1) from nI_add h 1]
        refine w_blk 1 (pc' := 21) (ls' := [some (.ref 44), some (.int (nI al)), some (.int (nI ((lo + ((hi - lo) / 2)) + 1))), some (.int (nI hi)), some (.int (nI (h + 1))), some (.int (nI (lo + ((hi - lo) / 2))))]) (sk' := []) (st' := st) (fun _ h => h) ?_
        exact ih (h + 1) (lo + (hi - lo) / 2 + 1) hi _ (by omega) (by omega) (by omega) h3 (sz_half (by omega) h4) h5 (by rw [Nat.add_sub_cancel]; exact g2)
      · replace g2 : ¬ (dgt a p b q (lo + ((hi - lo) / 2)) < al) := fun hh => g2 ((nI_ltI (a := (dgt a p b q (lo + ((hi - lo) / 2)))) (b := al) (by omega) (by omega)).mpr hh)
        refine w_blk 4 (pc' := 66) (ls' := [some (.ref 44), some (.int (nI al)), some (.int (nI lo)), some (.int (nI (lo + ((hi - lo) / 2)))), some (.int ((nI h) + 1)), some (.int (nI (lo + ((hi - lo) / 2))))]) (sk' := []) (st' := st) (fun _ h => h) ?_
        rw [show ((nI h) + 1) = nI (h + 1) from nI_add h 1]
        refine w_blk 1 (pc' := 21) (ls' := [some (.ref 44), some (.int (nI al)), some (.int (nI lo)), some (.int (nI (lo + ((hi - lo) / 2)))), some (.int (nI (h + 1))), some (.int (nI (lo + ((hi - lo) / 2))))]) (sk' := []) (st' := st) (fun _ h => h) ?_
        exact ih (h + 1) lo (lo + (hi - lo) / 2) _ (by omega) h1 (by omega) (by omega) (sz_half (by omega) h4) (by omega) h6
set_option maxRecDepth 20000 in
/-- hold -/
theorem c_hold_5 (d : Nat) (n : Nat → Nat) (c : Nat → Nat → Nat) (a p b q : Nat) (st : mSt) (hX : X5 st n c) (hB : CB n c) (hn2 : n 2 ≠ 0) (ha1 : 1 ≤ a) (ha9 : a ≤ 99) (hp1 : 1 ≤ p) (hp9 : p ≤ 99) (hb1 : 1 ≤ b) (hb9 : b ≤ 99) (hq1 : 1 ≤ q) (hq9 : q ≤ 99) : ∃ (t : Nat) (y : Nat) (s : mSt), mMC mT (d + 4) 42 [.ref 44, .ref 5, .int (nI a), .int (nI p), .int (nI b), .int (nI q)] st (none) s ∧ MTt (sm (cl c) (n 2)) a p b q t ∧ YO c (n 2) (plc (sm (cl c) (n 2)) a p b q t) y ∧ s.1 44 0 = nI t ∧ s.1 44 1 = nI y ∧ s.1 44 2 = nI (fst_ (sm (cl c) (n 2)) a p b q t) ∧ Fr [44] st s := by
  suffices H : ∀ Q : Option Value → mSt → Prop, (∀ (t : Nat) (y : Nat) (s : mSt), (MTt (sm (cl c) (n 2)) a p b q t ∧ YO c (n 2) (plc (sm (cl c) (n 2)) a p b q t) y ∧ s.1 44 0 = nI t ∧ s.1 44 1 = nI y ∧ s.1 44 2 = nI (fst_ (sm (cl c) (n 2)) a p b q t) ∧ Fr [44] st s) → Q (none) s) → mW (mMC mT (d + 3)) (0, fun _ => 0) (mAtL P_X4_hold) none Q 0 [some (.ref 44), some (.ref 5), some (.int (nI a)), some (.int (nI p)), some (.int (nI b)), some (.int (nI q)), none, none, none, none, none] [] st by
    obtain ⟨_, _, ⟨t, y, s, rfl, rfl, hp⟩, hw⟩ := mW_ex (H (fun vv tt => ∃ (t : Nat) (y : Nat) (s : mSt),  vv = none ∧ s = tt ∧ MTt (sm (cl c) (n 2)) a p b q t ∧ YO c (n 2) (plc (sm (cl c) (n 2)) a p b q t) y ∧ s.1 44 0 = nI t ∧ s.1 44 1 = nI y ∧ s.1 44 2 = nI (fst_ (sm (cl c) (n 2)) a p b q t) ∧ Fr [44] st s) (fun t y s hp => ⟨t, y, s, rfl, rfl, hp⟩))
    exact ⟨t, y, s, mI_X4_hold (d := d + 3) (Nat.le_of_ble_eq_true rfl) hw, hp⟩
  intro Q hq
  obtain ⟨hc0, hc1, hc2, hcd, hcs, hcy⟩ := id hB
  have hab := all_bd hB (n 2) (Nat.le_refl _)
  obtain ⟨al, hal⟩ : ∃ al, al = sm (cl c) (n 2) := ⟨_, rfl⟩
  refine w_blk 12 (pc' := 22) (ls' := [some (.ref 44), some (.ref 5), some (.int (nI a)), some (.int (nI p)), some (.int (nI b)), some (.int (nI q)), none, none, none, none, none]) (sk' := []) (st' := ((mU (mU (mU (mU st.1 44 3 (nI a)) 44 4 (nI p)) 44 5 (nI b)) 44 6 (nI q)), st.2)) (fun _ h => h) ?_
  have hE_2 : (((mU (mU (mU (mU st.1 44 3 (nI a)) 44 4 (nI p)) 44 5 (nI b)) 44 6 (nI q)), st.2)).1 44 3 = nI a ∧ (((mU (mU (mU (mU st.1 44 3 (nI a)) 44 4 (nI p)) 44 5 (nI b)) 44 6 (nI q)), st.2)).1 44 4 = nI p ∧ (((mU (mU (mU (mU st.1 44 3 (nI a)) 44 4 (nI p)) 44 5 (nI b)) 44 6 (nI q)), st.2)).1 44 5 = nI b ∧ (((mU (mU (mU (mU st.1 44 3 (nI a)) 44 4 (nI p)) 44 5 (nI b)) 44 6 (nI q)), st.2)).1 44 6 = nI q := ⟨rfl, rfl, rfl, rfl⟩
  have hf_3 : Fr [44] st ((mU (mU (mU (mU st.1 44 3 (nI a)) 44 4 (nI p)) 44 5 (nI b)) 44 6 (nI q)), st.2) := (Fr.trans (Fr.trans (Fr.trans (Fr.trans (Fr.rf : Fr [44] st st) (Fr.mU (by decide))) (Fr.mU (by decide))) (Fr.mU (by decide))) (Fr.mU (by decide)))
  generalize ((mU (mU (mU (mU st.1 44 3 (nI a)) 44 4 (nI p)) 44 5 (nI b)) 44 6 (nI q)), st.2) = s1 at hE_2 hf_3 ⊢
  have hX1 : X5 s1 n c := X5_fr hf_3 (by decide) hX
  have hfr : Fr [44] st s1 := hf_3
  refine w_blk 1 (pc' := 23) (ls' := [some (.ref 44), some (.ref 5), some (.int (nI a)), some (.int (nI p)), some (.int (nI b)), some (.int (nI q)), none, none, none, none, none]) (sk' := [.ref 5]) (st' := s1) (fun _ h => h) ?_
  refine w_callV (As := [.ref 5]) (rest := []) rfl rfl rfl (Nat.le_of_ble_eq_true rfl) (Nat.le_of_ble_eq_true rfl) (by first | exact Or.inl ⟨rfl, rfl⟩ | exact Or.inr ⟨rfl, rfl⟩) (c_allClods_5 (d + 0) n c s1 hX1 hB) ?_
  rw [← hal]
  rw [← hal] at hab
  refine w_blk 4 (pc' := 32) (ls' := [some (.ref 44), some (.ref 5), some (.int (nI a)), some (.int (nI p)), some (.int (nI b)), some (.int (nI q)), some (.int (nI al)), none, none, none, none]) (sk' := [.int (nI al), .ref 44, .ref 44]) (st' := s1) (fun _ h => h) ?_
  obtain ⟨t4, _, hc_5, ht_6, hb_7, rfl⟩ := c_firstBeat (d + 0) al a p b q s1 hE_2 ha1 ha9 hp1 hp9 hb1 hb9 hq1 hq9 (by omega) (by omega)
  refine w_callV (As := [.ref 44, .int (nI al)]) (rest := [.ref 44]) rfl rfl rfl (Nat.le_of_ble_eq_true rfl) (Nat.le_of_ble_eq_true rfl) (by first | exact Or.inl ⟨rfl, rfl⟩ | exact Or.inr ⟨rfl, rfl⟩) hc_5 ?_
  obtain ⟨ht1, ht2, ht3⟩ := id ht_6
  have hrm : t4 % p < p := Nat.mod_lt _ (by omega)
  have hbd9 := dgt_bd (p := p) (q := q) (t := t4 - 1) (B := 705771) ha9 hb9 (by omega)
  have hdg : a * ((t4 - 1) / p) + b * ((t4 - 1) / q) < al := ht3
  refine w_blk 3 (pc' := 42) (ls' := [some (.ref 44), some (.ref 5), some (.int (nI a)), some (.int (nI p)), some (.int (nI b)), some (.int (nI q)), some (.int (nI al)), none, none, none, none]) (sk' := [.int (s1.1 44 3)]) (st' := ((mU s1.1 44 0 (nI t4)), s1.2)) (fun _ h => h) ?_
  rw [hE_2.1]
  refine w_blk 4 (pc' := 48) (ls' := [some (.ref 44), some (.ref 5), some (.int (nI a)), some (.int (nI p)), some (.int (nI b)), some (.int (nI q)), some (.int (nI al)), none, none, none, none]) (sk' := [.int ((nI t4) - 1), .int (nI a)]) (st' := ((mU s1.1 44 0 (nI t4)), s1.2)) (fun _ h => h) ?_
  rw [show ((nI t4) - 1) = nI (t4 - 1) from pk_sub (a := t4) (b := 1) (by omega)]
  refine w_blk 2 (pc' := 52) (ls' := [some (.ref 44), some (.ref 5), some (.int (nI a)), some (.int (nI p)), some (.int (nI b)), some (.int (nI q)), some (.int (nI al)), none, none, none, none]) (sk' := [.int (s1.1 44 4), .int (nI (t4 - 1)), .int (nI a)]) (st' := ((mU s1.1 44 0 (nI t4)), s1.2)) (fun _ h => h) ?_
  rw [hE_2.2.1]
  refine w_callS (As := [.int (nI (t4 - 1)), .int (nI p)]) (rest := [.int (nI a)]) rfl rfl rfl (Nat.le_of_ble_eq_true rfl) (Nat.le_of_ble_eq_true rfl) (c_quotZ (d + 2) (t4 - 1) p ((mU s1.1 44 0 (nI t4)), s1.2) (by omega) (by omega)) ?_
  refine w_blk 1 (pc' := 56) (ls' := [some (.ref 44), some (.ref 5), some (.int (nI a)), some (.int (nI p)), some (.int (nI b)), some (.int (nI q)), some (.int (nI al)), none, none, none, none]) (sk' := [.int ((nI a) * (nI ((t4 - 1) / p)))]) (st' := ((mU s1.1 44 0 (nI t4)), s1.2)) (fun _ h => h) ?_
  rw [show ((nI a) * (nI ((t4 - 1) / p))) = nI (a * ((t4 - 1) / p)) from pk_mul a ((t4 - 1) / p)]
  refine w_blk 3 (pc' := 62) (ls' := [some (.ref 44), some (.ref 5), some (.int (nI a)), some (.int (nI p)), some (.int (nI b)), some (.int (nI q)), some (.int (nI al)), some (.int (nI (a * ((t4 - 1) / p)))), none, none, none]) (sk' := [.int (s1.1 44 5)]) (st' := ((mU s1.1 44 0 (nI t4)), s1.2)) (fun _ h => h) ?_
  rw [hE_2.2.2.1]
  refine w_blk 4 (pc' := 68) (ls' := [some (.ref 44), some (.ref 5), some (.int (nI a)), some (.int (nI p)), some (.int (nI b)), some (.int (nI q)), some (.int (nI al)), some (.int (nI (a * ((t4 - 1) / p)))), none, none, none]) (sk' := [.int ((nI t4) - 1), .int (nI b)]) (st' := ((mU s1.1 44 0 (nI t4)), s1.2)) (fun _ h => h) ?_
  rw [show ((nI t4) - 1) = nI (t4 - 1) from pk_sub (a := t4) (b := 1) (by omega)]
  refine w_blk 2 (pc' := 72) (ls' := [some (.ref 44), some (.ref 5), some (.int (nI a)), some (.int (nI p)), some (.int (nI b)), some (.int (nI q)), some (.int (nI al)), some (.int (nI (a * ((t4 - 1) / p)))), none, none, none]) (sk' := [.int (s1.1 44 6), .int (nI (t4 - 1)), .int (nI b)]) (st' := ((mU s1.1 44 0 (nI t4)), s1.2)) (fun _ h => h) ?_
  rw [hE_2.2.2.2]
  refine w_callS (As := [.int (nI (t4 - 1)), .int (nI q)]) (rest := [.int (nI b)]) rfl rfl rfl (Nat.le_of_ble_eq_true rfl) (Nat.le_of_ble_eq_true rfl) (c_quotZ (d + 2) (t4 - 1) q ((mU s1.1 44 0 (nI t4)), s1.2) (by omega) (by omega)) ?_
  refine w_blk 1 (pc' := 76) (ls' := [some (.ref 44), some (.ref 5), some (.int (nI a)), some (.int (nI p)), some (.int (nI b)), some (.int (nI q)), some (.int (nI al)), some (.int (nI (a * ((t4 - 1) / p)))), none, none, none]) (sk' := [.int ((nI b) * (nI ((t4 - 1) / q)))]) (st' := ((mU s1.1 44 0 (nI t4)), s1.2)) (fun _ h => h) ?_
  rw [show ((nI b) * (nI ((t4 - 1) / q))) = nI (b * ((t4 - 1) / q)) from pk_mul b ((t4 - 1) / q)]
  refine w_blk 4 (pc' := 83) (ls' := [some (.ref 44), some (.ref 5), some (.int (nI a)), some (.int (nI p)), some (.int (nI b)), some (.int (nI q)), some (.int (nI al)), some (.int (nI (a * ((t4 - 1) / p)))), some (.int (nI (b * ((t4 - 1) / q)))), none, none]) (sk' := [.int ((nI al) - (nI (a * ((t4 - 1) / p))))]) (st' := ((mU s1.1 44 0 (nI t4)), s1.2)) (fun _ h => h) ?_
  rw [show ((nI al) - (nI (a * ((t4 - 1) / p)))) = nI (al - (a * ((t4 - 1) / p))) from pk_sub (a := al) (b := a * ((t4 - 1) / p)) (by omega)]
  refine w_blk 2 (pc' := 86) (ls' := [some (.ref 44), some (.ref 5), some (.int (nI a)), some (.int (nI p)), some (.int (nI b)), some (.int (nI q)), some (.int (nI al)), some (.int (nI (a * ((t4 - 1) / p)))), some (.int (nI (b * ((t4 - 1) / q)))), none, none]) (sk' := [.int ((nI (al - (a * ((t4 - 1) / p)))) - (nI (b * ((t4 - 1) / q))))]) (st' := ((mU s1.1 44 0 (nI t4)), s1.2)) (fun _ h => h) ?_
  rw [show ((nI (al - (a * ((t4 - 1) / p)))) - (nI (b * ((t4 - 1) / q)))) = nI ((al - (a * ((t4 - 1) / p))) - (b * ((t4 - 1) / q))) from pk_sub (a := al - (a * ((t4 - 1) / p))) (b := b * ((t4 - 1) / q)) (by omega)]
  refine w_blk 5 (pc' := 96) (ls' := [some (.ref 44), some (.ref 5), some (.int (nI a)), some (.int (nI p)), some (.int (nI b)), some (.int (nI q)), some (.int (nI al)), some (.int (nI (a * ((t4 - 1) / p)))), some (.int (nI (b * ((t4 - 1) / q)))), some (.int (nI ((al - (a * ((t4 - 1) / p))) - (b * ((t4 - 1) / q))))), none]) (sk' := [.int (s1.1 44 4), .int (nI t4)]) (st' := ((mU s1.1 44 0 (nI t4)), s1.2)) (fun _ h => h) ?_
  rw [hE_2.2.1]
  refine w_callS (As := [.int (nI t4), .int (nI p)]) (rest := []) rfl rfl rfl (Nat.le_of_ble_eq_true rfl) (Nat.le_of_ble_eq_true rfl) (c_remK (d + 2) t4 p ((mU s1.1 44 0 (nI t4)), s1.2) (by omega) (by omega) (by omega)) ?_
  refine w_if_ne rfl (fun h1 => ?_) (fun h1 => ?_)
  · replace h1 : ¬ (t4 % p = 0) := fun hh => h1 ((nI_eq (a := (t4 % p)) (b := 0) (by omega) (by omega)).mpr hh)
    have hsk : skt a p t4 = 0 := if_neg h1
    have hfst : fst_ al a p b q t4 = a * ((t4 - 1) / p) + min 0 (al - a * ((t4 - 1) / p) - b * ((t4 - 1) / q)) := by unfold fst_; rw [hsk]
    have hplc : plc al a p b q t4 = (if al - a * ((t4 - 1) / p) - b * ((t4 - 1) / q) ≤ 0 then al - b * ((t4 - 1) / q) - 1 else fst_ al a p b q t4) := by unfold plc; rw [hsk]
    refine w_blk 6 (pc' := 119) (ls' := [some (.ref 44), some (.ref 5), some (.int (nI a)), some (.int (nI p)), some (.int (nI b)), some (.int (nI q)), some (.int (nI al)), some (.int (nI (a * ((t4 - 1) / p)))), some (.int (nI (b * ((t4 - 1) / q)))), some (.int (nI ((al - (a * ((t4 - 1) / p))) - (b * ((t4 - 1) / q))))), some (.int 0)]) (sk' := [.int (nI ((al - (a * ((t4 - 1) / p))) - (b * ((t4 - 1) / q)))), .int 0, .int (nI (a * ((t4 - 1) / p))), .ref 44]) (st' := ((mU s1.1 44 0 (nI t4)), s1.2)) (fun _ h => h) ?_
    refine w_callS (As := [.int 0, .int (nI ((al - (a * ((t4 - 1) / p))) - (b * ((t4 - 1) / q))))]) (rest := [.int (nI (a * ((t4 - 1) / p))), .ref 44]) rfl rfl rfl (Nat.le_of_ble_eq_true rfl) (Nat.le_of_ble_eq_true rfl) (c_minK (d + 2) 0 ((al - (a * ((t4 - 1) / p))) - (b * ((t4 - 1) / q))) ((mU s1.1 44 0 (nI t4)), s1.2) (by omega) (by omega)) ?_
    refine w_blk 1 (pc' := 123) (ls' := [some (.ref 44), some (.ref 5), some (.int (nI a)), some (.int (nI p)), some (.int (nI b)), some (.int (nI q)), some (.int (nI al)), some (.int (nI (a * ((t4 - 1) / p)))), some (.int (nI (b * ((t4 - 1) / q)))), some (.int (nI ((al - (a * ((t4 - 1) / p))) - (b * ((t4 - 1) / q))))), some (.int 0)]) (sk' := [.int ((nI (a * ((t4 - 1) / p))) + (nI (min 0 ((al - (a * ((t4 - 1) / p))) - (b * ((t4 - 1) / q)))))), .ref 44]) (st' := ((mU s1.1 44 0 (nI t4)), s1.2)) (fun _ h => h) ?_
    rw [show ((nI (a * ((t4 - 1) / p))) + (nI (min 0 ((al - (a * ((t4 - 1) / p))) - (b * ((t4 - 1) / q)))))) = nI ((a * ((t4 - 1) / p)) + (min 0 ((al - (a * ((t4 - 1) / p))) - (b * ((t4 - 1) / q))))) from nI_add (a * ((t4 - 1) / p)) (min 0 ((al - (a * ((t4 - 1) / p))) - (b * ((t4 - 1) / q))))]
    refine w_blk 1 (pc' := 126) (ls' := [some (.ref 44), some (.ref 5), some (.int (nI a)), some (.int (nI p)), some (.int (nI b)), some (.int (nI q)), some (.int (nI al)), some (.int (nI (a * ((t4 - 1) / p)))), some (.int (nI (b * ((t4 - 1) / q)))), some (.int (nI ((al - (a * ((t4 - 1) / p))) - (b * ((t4 - 1) / q))))), some (.int 0)]) (sk' := []) (st' := ((mU (mU s1.1 44 0 (nI t4)) 44 2 (nI ((a * ((t4 - 1) / p)) + (min 0 ((al - (a * ((t4 - 1) / p))) - (b * ((t4 - 1) / q))))))), s1.2)) (fun _ h => h) ?_
    have hV_9 : (((mU (mU s1.1 44 0 (nI t4)) 44 2 (nI ((a * ((t4 - 1) / p)) + (min 0 ((al - (a * ((t4 - 1) / p))) - (b * ((t4 - 1) / q))))))), s1.2)).1 44 0 = nI t4 ∧ (((mU (mU s1.1 44 0 (nI t4)) 44 2 (nI ((a * ((t4 - 1) / p)) + (min 0 ((al - (a * ((t4 - 1) / p))) - (b * ((t4 - 1) / q))))))), s1.2)).1 44 2 = nI (fst_ al a p b q t4) := ⟨rfl, congrArg nI hfst.symm⟩
    have hF_10 : Fr [44] st ((mU (mU s1.1 44 0 (nI t4)) 44 2 (nI ((a * ((t4 - 1) / p)) + (min 0 ((al - (a * ((t4 - 1) / p))) - (b * ((t4 - 1) / q))))))), s1.2) := (Fr.trans (Fr.trans hfr (Fr.mU (by decide))) (Fr.mU (by decide)))
    generalize ((mU (mU s1.1 44 0 (nI t4)) 44 2 (nI ((a * ((t4 - 1) / p)) + (min 0 ((al - (a * ((t4 - 1) / p))) - (b * ((t4 - 1) / q))))))), s1.2) = s8 at hV_9 hF_10 ⊢
    have hX2 : X5 s8 n c := X5_fr hF_10 (by decide) hX
    refine w_blk 4 (pc' := 132) (ls' := [some (.ref 44), some (.ref 5), some (.int (nI a)), some (.int (nI p)), some (.int (nI b)), some (.int (nI q)), some (.int (nI al)), some (.int (nI (a * ((t4 - 1) / p)))), some (.int (nI (b * ((t4 - 1) / q)))), some (.int (nI ((al - (a * ((t4 - 1) / p))) - (b * ((t4 - 1) / q))))), some (.int 0)]) (sk' := [.int (nI ((al - (a * ((t4 - 1) / p))) - (b * ((t4 - 1) / q)))), .int 0, .ref 5, .ref 44]) (st' := s8) (fun _ h => h) ?_
    refine w_cmp_lt rfl (fun h2 => ?_) (fun h2 => ?_)
    · replace h2 : 0 < (al - (a * ((t4 - 1) / p))) - (b * ((t4 - 1) / q)) := (nI_ltI (a := 0) (b := ((al - (a * ((t4 - 1) / p))) - (b * ((t4 - 1) / q)))) (by omega) (by omega)).mp h2
      refine w_blk 2 (pc' := 149) (ls' := [some (.ref 44), some (.ref 5), some (.int (nI a)), some (.int (nI p)), some (.int (nI b)), some (.int (nI q)), some (.int (nI al)), some (.int (nI (a * ((t4 - 1) / p)))), some (.int (nI (b * ((t4 - 1) / q)))), some (.int (nI ((al - (a * ((t4 - 1) / p))) - (b * ((t4 - 1) / q))))), some (.int 0)]) (sk' := [.int (s8.1 44 2), .ref 5, .ref 44]) (st' := s8) (fun _ h => h) ?_
      rw [hV_9.2]
      have hplc2 : plc al a p b q t4 = fst_ al a p b q t4 := hplc.trans (if_neg (by omega))
      have hlt : fst_ al a p b q t4 < (sm (cl c) (n 2)) := by rw [← hal]; omega
      obtain ⟨y11, _, hc_12, hy_13, rfl⟩ := c_yoc_5 (d + 0) n c (fst_ al a p b q t4) s8 hX2 hB (by omega)
      refine w_callV (As := [.ref 5, .int (nI (fst_ al a p b q t4))]) (rest := [.ref 44]) rfl rfl rfl (Nat.le_of_ble_eq_true rfl) (Nat.le_of_ble_eq_true rfl) (by first | exact Or.inl ⟨rfl, rfl⟩ | exact Or.inr ⟨rfl, rfl⟩) hc_12 ?_
      refine w_blk 1 (pc' := 155) (ls' := [some (.ref 44), some (.ref 5), some (.int (nI a)), some (.int (nI p)), some (.int (nI b)), some (.int (nI q)), some (.int (nI al)), some (.int (nI (a * ((t4 - 1) / p)))), some (.int (nI (b * ((t4 - 1) / q)))), some (.int (nI ((al - (a * ((t4 - 1) / p))) - (b * ((t4 - 1) / q))))), some (.int 0)]) (sk' := []) (st' := ((mU s8.1 44 1 (nI y11)), s8.2)) (fun _ h => h) ?_
      exact w_vret rfl rfl (hq t4 _ _ (by rw [← hal, hplc2]; exact ⟨ht_6, hy_13, hV_9.1, rfl, hV_9.2, Fr.trans hF_10 (Fr.mU (by decide))⟩))
    · replace h2 : ¬ (0 < (al - (a * ((t4 - 1) / p))) - (b * ((t4 - 1) / q))) := fun hh => h2 ((nI_ltI (a := 0) (b := ((al - (a * ((t4 - 1) / p))) - (b * ((t4 - 1) / q)))) (by omega) (by omega)).mpr hh)
      refine w_blk 3 (pc' := 140) (ls' := [some (.ref 44), some (.ref 5), some (.int (nI a)), some (.int (nI p)), some (.int (nI b)), some (.int (nI q)), some (.int (nI al)), some (.int (nI (a * ((t4 - 1) / p)))), some (.int (nI (b * ((t4 - 1) / q)))), some (.int (nI ((al - (a * ((t4 - 1) / p))) - (b * ((t4 - 1) / q))))), some (.int 0)]) (sk' := [.int ((nI al) - (nI (b * ((t4 - 1) / q)))), .ref 5, .ref 44]) (st' := s8) (fun _ h => h) ?_
      rw [show ((nI al) - (nI (b * ((t4 - 1) / q)))) = nI (al - (b * ((t4 - 1) / q))) from pk_sub (a := al) (b := b * ((t4 - 1) / q)) (by omega)]
      refine w_blk 2 (pc' := 142) (ls' := [some (.ref 44), some (.ref 5), some (.int (nI a)), some (.int (nI p)), some (.int (nI b)), some (.int (nI q)), some (.int (nI al)), some (.int (nI (a * ((t4 - 1) / p)))), some (.int (nI (b * ((t4 - 1) / q)))), some (.int (nI ((al - (a * ((t4 - 1) / p))) - (b * ((t4 - 1) / q))))), some (.int 0)]) (sk' := [.int ((nI (al - (b * ((t4 - 1) / q)))) - 1), .ref 5, .ref 44]) (st' := s8) (fun _ h => h) ?_
      rw [show ((nI (al - (b * ((t4 - 1) / q)))) - 1) = nI ((al - (b * ((t4 - 1) / q))) - 1) from pk_sub (a := al - (b * ((t4 - 1) / q))) (b := 1) (by omega)]
      refine w_blk 1 (pc' := 149) (ls' := [some (.ref 44), some (.ref 5), some (.int (nI a)), some (.int (nI p)), some (.int (nI b)), some (.int (nI q)), some (.int (nI al)), some (.int (nI (a * ((t4 - 1) / p)))), some (.int (nI (b * ((t4 - 1) / q)))), some (.int (nI ((al - (a * ((t4 - 1) / p))) - (b * ((t4 - 1) / q))))), some (.int 0)]) (sk' := [.int (nI ((al - (b * ((t4 - 1) / q))) - 1)), .ref 5, .ref 44]) (st' := s8) (fun _ h => h) ?_
      have hplc2 : plc al a p b q t4 = (al - (b * ((t4 - 1) / q))) - 1 := hplc.trans (if_pos (by omega))
      have hlt : (al - (b * ((t4 - 1) / q))) - 1 < (sm (cl c) (n 2)) := by rw [← hal]; omega
      obtain ⟨y14, _, hc_15, hy_16, rfl⟩ := c_yoc_5 (d + 0) n c ((al - (b * ((t4 - 1) / q))) - 1) s8 hX2 hB (by omega)
      refine w_callV (As := [.ref 5, .int (nI ((al - (b * ((t4 - 1) / q))) - 1))]) (rest := [.ref 44]) rfl rfl rfl (Nat.le_of_ble_eq_true rfl) (Nat.le_of_ble_eq_true rfl) (by first | exact Or.inl ⟨rfl, rfl⟩ | exact Or.inr ⟨rfl, rfl⟩) hc_15 ?_
      refine w_blk 1 (pc' := 155) (ls' := [some (.ref 44), some (.ref 5), some (.int (nI a)), some (.int (nI p)), some (.int (nI b)), some (.int (nI q)), some (.int (nI al)), some (.int (nI (a * ((t4 - 1) / p)))), some (.int (nI (b * ((t4 - 1) / q)))), some (.int (nI ((al - (a * ((t4 - 1) / p))) - (b * ((t4 - 1) / q))))), some (.int 0)]) (sk' := []) (st' := ((mU s8.1 44 1 (nI y14)), s8.2)) (fun _ h => h) ?_
      exact w_vret rfl rfl (hq t4 _ _ (by rw [← hal, hplc2]; exact ⟨ht_6, hy_16, hV_9.1, rfl, hV_9.2, Fr.trans hF_10 (Fr.mU (by decide))⟩))
  · replace h1 : t4 % p = 0 := (nI_eq (a := (t4 % p)) (b := 0) (by omega) (by omega)).mp (Decidable.not_not.mp h1)
    have hsk : skt a p t4 = a := if_pos h1
    have hfst : fst_ al a p b q t4 = a * ((t4 - 1) / p) + min a (al - a * ((t4 - 1) / p) - b * ((t4 - 1) / q)) := by unfold fst_; rw [hsk]
    have hplc : plc al a p b q t4 = (if al - a * ((t4 - 1) / p) - b * ((t4 - 1) / q) ≤ a then al - b * ((t4 - 1) / q) - 1 else fst_ al a p b q t4) := by unfold plc; rw [hsk]
    refine w_blk 2 (pc' := 106) (ls' := [some (.ref 44), some (.ref 5), some (.int (nI a)), some (.int (nI p)), some (.int (nI b)), some (.int (nI q)), some (.int (nI al)), some (.int (nI (a * ((t4 - 1) / p)))), some (.int (nI (b * ((t4 - 1) / q)))), some (.int (nI ((al - (a * ((t4 - 1) / p))) - (b * ((t4 - 1) / q))))), none]) (sk' := [.int (s1.1 44 3)]) (st' := ((mU s1.1 44 0 (nI t4)), s1.2)) (fun _ h => h) ?_
    rw [hE_2.1]
    refine w_blk 6 (pc' := 119) (ls' := [some (.ref 44), some (.ref 5), some (.int (nI a)), some (.int (nI p)), some (.int (nI b)), some (.int (nI q)), some (.int (nI al)), some (.int (nI (a * ((t4 - 1) / p)))), some (.int (nI (b * ((t4 - 1) / q)))), some (.int (nI ((al - (a * ((t4 - 1) / p))) - (b * ((t4 - 1) / q))))), some (.int (nI a))]) (sk' := [.int (nI ((al - (a * ((t4 - 1) / p))) - (b * ((t4 - 1) / q)))), .int (nI a), .int (nI (a * ((t4 - 1) / p))), .ref 44]) (st' := ((mU s1.1 44 0 (nI t4)), s1.2)) (fun _ h => h) ?_
    refine w_callS (As := [.int (nI a), .int (nI ((al - (a * ((t4 - 1) / p))) - (b * ((t4 - 1) / q))))]) (rest := [.int (nI (a * ((t4 - 1) / p))), .ref 44]) rfl rfl rfl (Nat.le_of_ble_eq_true rfl) (Nat.le_of_ble_eq_true rfl) (c_minK (d + 2) a ((al - (a * ((t4 - 1) / p))) - (b * ((t4 - 1) / q))) ((mU s1.1 44 0 (nI t4)), s1.2) (by omega) (by omega)) ?_
    refine w_blk 1 (pc' := 123) (ls' := [some (.ref 44), some (.ref 5), some (.int (nI a)), some (.int (nI p)), some (.int (nI b)), some (.int (nI q)), some (.int (nI al)), some (.int (nI (a * ((t4 - 1) / p)))), some (.int (nI (b * ((t4 - 1) / q)))), some (.int (nI ((al - (a * ((t4 - 1) / p))) - (b * ((t4 - 1) / q))))), some (.int (nI a))]) (sk' := [.int ((nI (a * ((t4 - 1) / p))) + (nI (min a ((al - (a * ((t4 - 1) / p))) - (b * ((t4 - 1) / q)))))), .ref 44]) (st' := ((mU s1.1 44 0 (nI t4)), s1.2)) (fun _ h => h) ?_
    rw [show ((nI (a * ((t4 - 1) / p))) + (nI (min a ((al - (a * ((t4 - 1) / p))) - (b * ((t4 - 1) / q)))))) = nI ((a * ((t4 - 1) / p)) + (min a ((al - (a * ((t4 - 1) / p))) - (b * ((t4 - 1) / q))))) from nI_add (a * ((t4 - 1) / p)) (min a ((al - (a * ((t4 - 1) / p))) - (b * ((t4 - 1) / q))))]
    refine w_blk 1 (pc' := 126) (ls' := [some (.ref 44), some (.ref 5), some (.int (nI a)), some (.int (nI p)), some (.int (nI b)), some (.int (nI q)), some (.int (nI al)), some (.int (nI (a * ((t4 - 1) / p)))), some (.int (nI (b * ((t4 - 1) / q)))), some (.int (nI ((al - (a * ((t4 - 1) / p))) - (b * ((t4 - 1) / q))))), some (.int (nI a))]) (sk' := []) (st' := ((mU (mU s1.1 44 0 (nI t4)) 44 2 (nI ((a * ((t4 - 1) / p)) + (min a ((al - (a * ((t4 - 1) / p))) - (b * ((t4 - 1) / q))))))), s1.2)) (fun _ h => h) ?_
    have hV_18 : (((mU (mU s1.1 44 0 (nI t4)) 44 2 (nI ((a * ((t4 - 1) / p)) + (min a ((al - (a * ((t4 - 1) / p))) - (b * ((t4 - 1) / q))))))), s1.2)).1 44 0 = nI t4 ∧ (((mU (mU s1.1 44 0 (nI t4)) 44 2 (nI ((a * ((t4 - 1) / p)) + (min a ((al - (a * ((t4 - 1) / p))) - (b * ((t4 - 1) / q))))))), s1.2)).1 44 2 = nI (fst_ al a p b q t4) := ⟨rfl, congrArg nI hfst.symm⟩
    have hF_19 : Fr [44] st ((mU (mU s1.1 44 0 (nI t4)) 44 2 (nI ((a * ((t4 - 1) / p)) + (min a ((al - (a * ((t4 - 1) / p))) - (b * ((t4 - 1) / q))))))), s1.2) := (Fr.trans (Fr.trans hfr (Fr.mU (by decide))) (Fr.mU (by decide)))
    generalize ((mU (mU s1.1 44 0 (nI t4)) 44 2 (nI ((a * ((t4 - 1) / p)) + (min a ((al - (a * ((t4 - 1) / p))) - (b * ((t4 - 1) / q))))))), s1.2) = s17 at hV_18 hF_19 ⊢
    have hX2 : X5 s17 n c := X5_fr hF_19 (by decide) hX
    refine w_blk 4 (pc' := 132) (ls' := [some (.ref 44), some (.ref 5), some (.int (nI a)), some (.int (nI p)), some (.int (nI b)), some (.int (nI q)), some (.int (nI al)), some (.int (nI (a * ((t4 - 1) / p)))), some (.int (nI (b * ((t4 - 1) / q)))), some (.int (nI ((al - (a * ((t4 - 1) / p))) - (b * ((t4 - 1) / q))))), some (.int (nI a))]) (sk' := [.int (nI ((al - (a * ((t4 - 1) / p))) - (b * ((t4 - 1) / q)))), .int (nI a), .ref 5, .ref 44]) (st' := s17) (fun _ h => h) ?_
    refine w_cmp_lt rfl (fun h2 => ?_) (fun h2 => ?_)
    · replace h2 : a < (al - (a * ((t4 - 1) / p))) - (b * ((t4 - 1) / q)) := (nI_ltI (a := a) (b := ((al - (a * ((t4 - 1) / p))) - (b * ((t4 - 1) / q)))) (by omega) (by omega)).mp h2
      refine w_blk 2 (pc' := 149) (ls' := [some (.ref 44), some (.ref 5), some (.int (nI a)), some (.int (nI p)), some (.int (nI b)), some (.int (nI q)), some (.int (nI al)), some (.int (nI (a * ((t4 - 1) / p)))), some (.int (nI (b * ((t4 - 1) / q)))), some (.int (nI ((al - (a * ((t4 - 1) / p))) - (b * ((t4 - 1) / q))))), some (.int (nI a))]) (sk' := [.int (s17.1 44 2), .ref 5, .ref 44]) (st' := s17) (fun _ h => h) ?_
      rw [hV_18.2]
      have hplc2 : plc al a p b q t4 = fst_ al a p b q t4 := hplc.trans (if_neg (by omega))
      have hlt : fst_ al a p b q t4 < (sm (cl c) (n 2)) := by rw [← hal]; omega
      obtain ⟨y20, _, hc_21, hy_22, rfl⟩ := c_yoc_5 (d + 0) n c (fst_ al a p b q t4) s17 hX2 hB (by omega)
      refine w_callV (As := [.ref 5, .int (nI (fst_ al a p b q t4))]) (rest := [.ref 44]) rfl rfl rfl (Nat.le_of_ble_eq_true rfl) (Nat.le_of_ble_eq_true rfl) (by first | exact Or.inl ⟨rfl, rfl⟩ | exact Or.inr ⟨rfl, rfl⟩) hc_21 ?_
      refine w_blk 1 (pc' := 155) (ls' := [some (.ref 44), some (.ref 5), some (.int (nI a)), some (.int (nI p)), some (.int (nI b)), some (.int (nI q)), some (.int (nI al)), some (.int (nI (a * ((t4 - 1) / p)))), some (.int (nI (b * ((t4 - 1) / q)))), some (.int (nI ((al - (a * ((t4 - 1) / p))) - (b * ((t4 - 1) / q))))), some (.int (nI a))]) (sk' := []) (st' := ((mU s17.1 44 1 (nI y20)), s17.2)) (fun _ h => h) ?_
      exact w_vret rfl rfl (hq t4 _ _ (by rw [← hal, hplc2]; exact ⟨ht_6, hy_22, hV_18.1, rfl, hV_18.2, Fr.trans hF_19 (Fr.mU (by decide))⟩))
    · replace h2 : ¬ (a < (al - (a * ((t4 - 1) / p))) - (b * ((t4 - 1) / q))) := fun hh => h2 ((nI_ltI (a := a) (b := ((al - (a * ((t4 - 1) / p))) - (b * ((t4 - 1) / q)))) (by omega) (by omega)).mpr hh)
      refine w_blk 3 (pc' := 140) (ls' := [some (.ref 44), some (.ref 5), some (.int (nI a)), some (.int (nI p)), some (.int (nI b)), some (.int (nI q)), some (.int (nI al)), some (.int (nI (a * ((t4 - 1) / p)))), some (.int (nI (b * ((t4 - 1) / q)))), some (.int (nI ((al - (a * ((t4 - 1) / p))) - (b * ((t4 - 1) / q))))), some (.int (nI a))]) (sk' := [.int ((nI al) - (nI (b * ((t4 - 1) / q)))), .ref 5, .ref 44]) (st' := s17) (fun _ h => h) ?_
      rw [show ((nI al) - (nI (b * ((t4 - 1) / q)))) = nI (al - (b * ((t4 - 1) / q))) from pk_sub (a := al) (b := b * ((t4 - 1) / q)) (by omega)]
      refine w_blk 2 (pc' := 142) (ls' := [some (.ref 44), some (.ref 5), some (.int (nI a)), some (.int (nI p)), some (.int (nI b)), some (.int (nI q)), some (.int (nI al)), some (.int (nI (a * ((t4 - 1) / p)))), some (.int (nI (b * ((t4 - 1) / q)))), some (.int (nI ((al - (a * ((t4 - 1) / p))) - (b * ((t4 - 1) / q))))), some (.int (nI a))]) (sk' := [.int ((nI (al - (b * ((t4 - 1) / q)))) - 1), .ref 5, .ref 44]) (st' := s17) (fun _ h => h) ?_
      rw [show ((nI (al - (b * ((t4 - 1) / q)))) - 1) = nI ((al - (b * ((t4 - 1) / q))) - 1) from pk_sub (a := al - (b * ((t4 - 1) / q))) (b := 1) (by omega)]
      refine w_blk 1 (pc' := 149) (ls' := [some (.ref 44), some (.ref 5), some (.int (nI a)), some (.int (nI p)), some (.int (nI b)), some (.int (nI q)), some (.int (nI al)), some (.int (nI (a * ((t4 - 1) / p)))), some (.int (nI (b * ((t4 - 1) / q)))), some (.int (nI ((al - (a * ((t4 - 1) / p))) - (b * ((t4 - 1) / q))))), some (.int (nI a))]) (sk' := [.int (nI ((al - (b * ((t4 - 1) / q))) - 1)), .ref 5, .ref 44]) (st' := s17) (fun _ h => h) ?_
      have hplc2 : plc al a p b q t4 = (al - (b * ((t4 - 1) / q))) - 1 := hplc.trans (if_pos (by omega))
      have hlt : (al - (b * ((t4 - 1) / q))) - 1 < (sm (cl c) (n 2)) := by rw [← hal]; omega
      obtain ⟨y23, _, hc_24, hy_25, rfl⟩ := c_yoc_5 (d + 0) n c ((al - (b * ((t4 - 1) / q))) - 1) s17 hX2 hB (by omega)
      refine w_callV (As := [.ref 5, .int (nI ((al - (b * ((t4 - 1) / q))) - 1))]) (rest := [.ref 44]) rfl rfl rfl (Nat.le_of_ble_eq_true rfl) (Nat.le_of_ble_eq_true rfl) (by first | exact Or.inl ⟨rfl, rfl⟩ | exact Or.inr ⟨rfl, rfl⟩) hc_24 ?_
      refine w_blk 1 (pc' := 155) (ls' := [some (.ref 44), some (.ref 5), some (.int (nI a)), some (.int (nI p)), some (.int (nI b)), some (.int (nI q)), some (.int (nI al)), some (.int (nI (a * ((t4 - 1) / p)))), some (.int (nI (b * ((t4 - 1) / q)))), some (.int (nI ((al - (a * ((t4 - 1) / p))) - (b * ((t4 - 1) / q))))), some (.int (nI a))]) (sk' := []) (st' := ((mU s17.1 44 1 (nI y23)), s17.2)) (fun _ h => h) ?_
      exact w_vret rfl rfl (hq t4 _ _ (by rw [← hal, hplc2]; exact ⟨ht_6, hy_25, hV_18.1, rfl, hV_18.2, Fr.trans hF_19 (Fr.mU (by decide))⟩))
set_option maxRecDepth 20000 in
/-- hold -/
theorem c_hold_13 (d : Nat) (n : Nat → Nat) (c : Nat → Nat → Nat) (a p b q : Nat) (st : mSt) (hX : X13 st n c) (hB : CB n c) (hn2 : n 2 ≠ 0) (ha1 : 1 ≤ a) (ha9 : a ≤ 99) (hp1 : 1 ≤ p) (hp9 : p ≤ 99) (hb1 : 1 ≤ b) (hb9 : b ≤ 99) (hq1 : 1 ≤ q) (hq9 : q ≤ 99) : ∃ (t : Nat) (y : Nat) (s : mSt), mMC mT (d + 4) 42 [.ref 44, .ref 13, .int (nI a), .int (nI p), .int (nI b), .int (nI q)] st (none) s ∧ MTt (sm (cl c) (n 2)) a p b q t ∧ YO c (n 2) (plc (sm (cl c) (n 2)) a p b q t) y ∧ s.1 44 0 = nI t ∧ s.1 44 1 = nI y ∧ s.1 44 2 = nI (fst_ (sm (cl c) (n 2)) a p b q t) ∧ Fr [44] st s := by
  suffices H : ∀ Q : Option Value → mSt → Prop, (∀ (t : Nat) (y : Nat) (s : mSt), (MTt (sm (cl c) (n 2)) a p b q t ∧ YO c (n 2) (plc (sm (cl c) (n 2)) a p b q t) y ∧ s.1 44 0 = nI t ∧ s.1 44 1 = nI y ∧ s.1 44 2 = nI (fst_ (sm (cl c) (n 2)) a p b q t) ∧ Fr [44] st s) → Q (none) s) → mW (mMC mT (d + 3)) (0, fun _ => 0) (mAtL P_X4_hold) none Q 0 [some (.ref 44), some (.ref 13), some (.int (nI a)), some (.int (nI p)), some (.int (nI b)), some (.int (nI q)), none, none, none, none, none] [] st by
    obtain ⟨_, _, ⟨t, y, s, rfl, rfl, hp⟩, hw⟩ := mW_ex (H (fun vv tt => ∃ (t : Nat) (y : Nat) (s : mSt),  vv = none ∧ s = tt ∧ MTt (sm (cl c) (n 2)) a p b q t ∧ YO c (n 2) (plc (sm (cl c) (n 2)) a p b q t) y ∧ s.1 44 0 = nI t ∧ s.1 44 1 = nI y ∧ s.1 44 2 = nI (fst_ (sm (cl c) (n 2)) a p b q t) ∧ Fr [44] st s) (fun t y s hp => ⟨t, y, s, rfl, rfl, hp⟩))
    exact ⟨t, y, s, mI_X4_hold (d := d + 3) (Nat.le_of_ble_eq_true rfl) hw, hp⟩
  intro Q hq
  obtain ⟨hc0, hc1, hc2, hcd, hcs, hcy⟩ := id hB
  have hab := all_bd hB (n 2) (Nat.le_refl _)
  obtain ⟨al, hal⟩ : ∃ al, al = sm (cl c) (n 2) := ⟨_, rfl⟩
  refine w_blk 12 (pc' := 22) (ls' := [some (.ref 44), some (.ref 13), some (.int (nI a)), some (.int (nI p)), some (.int (nI b)), some (.int (nI q)), none, none, none, none, none]) (sk' := []) (st' := ((mU (mU (mU (mU st.1 44 3 (nI a)) 44 4 (nI p)) 44 5 (nI b)) 44 6 (nI q)), st.2)) (fun _ h => h) ?_
  have hE_2 : (((mU (mU (mU (mU st.1 44 3 (nI a)) 44 4 (nI p)) 44 5 (nI b)) 44 6 (nI q)), st.2)).1 44 3 = nI a ∧ (((mU (mU (mU (mU st.1 44 3 (nI a)) 44 4 (nI p)) 44 5 (nI b)) 44 6 (nI q)), st.2)).1 44 4 = nI p ∧ (((mU (mU (mU (mU st.1 44 3 (nI a)) 44 4 (nI p)) 44 5 (nI b)) 44 6 (nI q)), st.2)).1 44 5 = nI b ∧ (((mU (mU (mU (mU st.1 44 3 (nI a)) 44 4 (nI p)) 44 5 (nI b)) 44 6 (nI q)), st.2)).1 44 6 = nI q := ⟨rfl, rfl, rfl, rfl⟩
  have hf_3 : Fr [44] st ((mU (mU (mU (mU st.1 44 3 (nI a)) 44 4 (nI p)) 44 5 (nI b)) 44 6 (nI q)), st.2) := (Fr.trans (Fr.trans (Fr.trans (Fr.trans (Fr.rf : Fr [44] st st) (Fr.mU (by decide))) (Fr.mU (by decide))) (Fr.mU (by decide))) (Fr.mU (by decide)))
  generalize ((mU (mU (mU (mU st.1 44 3 (nI a)) 44 4 (nI p)) 44 5 (nI b)) 44 6 (nI q)), st.2) = s1 at hE_2 hf_3 ⊢
  have hX1 : X13 s1 n c := X13_fr hf_3 (by decide) hX
  have hfr : Fr [44] st s1 := hf_3
  refine w_blk 1 (pc' := 23) (ls' := [some (.ref 44), some (.ref 13), some (.int (nI a)), some (.int (nI p)), some (.int (nI b)), some (.int (nI q)), none, none, none, none, none]) (sk' := [.ref 13]) (st' := s1) (fun _ h => h) ?_
  refine w_callV (As := [.ref 13]) (rest := []) rfl rfl rfl (Nat.le_of_ble_eq_true rfl) (Nat.le_of_ble_eq_true rfl) (by first | exact Or.inl ⟨rfl, rfl⟩ | exact Or.inr ⟨rfl, rfl⟩) (c_allClods_13 (d + 0) n c s1 hX1 hB) ?_
  rw [← hal]
  rw [← hal] at hab
  refine w_blk 4 (pc' := 32) (ls' := [some (.ref 44), some (.ref 13), some (.int (nI a)), some (.int (nI p)), some (.int (nI b)), some (.int (nI q)), some (.int (nI al)), none, none, none, none]) (sk' := [.int (nI al), .ref 44, .ref 44]) (st' := s1) (fun _ h => h) ?_
  obtain ⟨t4, _, hc_5, ht_6, hb_7, rfl⟩ := c_firstBeat (d + 0) al a p b q s1 hE_2 ha1 ha9 hp1 hp9 hb1 hb9 hq1 hq9 (by omega) (by omega)
  refine w_callV (As := [.ref 44, .int (nI al)]) (rest := [.ref 44]) rfl rfl rfl (Nat.le_of_ble_eq_true rfl) (Nat.le_of_ble_eq_true rfl) (by first | exact Or.inl ⟨rfl, rfl⟩ | exact Or.inr ⟨rfl, rfl⟩) hc_5 ?_
  obtain ⟨ht1, ht2, ht3⟩ := id ht_6
  have hrm : t4 % p < p := Nat.mod_lt _ (by omega)
  have hbd9 := dgt_bd (p := p) (q := q) (t := t4 - 1) (B := 705771) ha9 hb9 (by omega)
  have hdg : a * ((t4 - 1) / p) + b * ((t4 - 1) / q) < al := ht3
  refine w_blk 3 (pc' := 42) (ls' := [some (.ref 44), some (.ref 13), some (.int (nI a)), some (.int (nI p)), some (.int (nI b)), some (.int (nI q)), some (.int (nI al)), none, none, none, none]) (sk' := [.int (s1.1 44 3)]) (st' := ((mU s1.1 44 0 (nI t4)), s1.2)) (fun _ h => h) ?_
  rw [hE_2.1]
  refine w_blk 4 (pc' := 48) (ls' := [some (.ref 44), some (.ref 13), some (.int (nI a)), some (.int (nI p)), some (.int (nI b)), some (.int (nI q)), some (.int (nI al)), none, none, none, none]) (sk' := [.int ((nI t4) - 1), .int (nI a)]) (st' := ((mU s1.1 44 0 (nI t4)), s1.2)) (fun _ h => h) ?_
  rw [show ((nI t4) - 1) = nI (t4 - 1) from pk_sub (a := t4) (b := 1) (by omega)]
  refine w_blk 2 (pc' := 52) (ls' := [some (.ref 44), some (.ref 13), some (.int (nI a)), some (.int (nI p)), some (.int (nI b)), some (.int (nI q)), some (.int (nI al)), none, none, none, none]) (sk' := [.int (s1.1 44 4), .int (nI (t4 - 1)), .int (nI a)]) (st' := ((mU s1.1 44 0 (nI t4)), s1.2)) (fun _ h => h) ?_
  rw [hE_2.2.1]
  refine w_callS (As := [.int (nI (t4 - 1)), .int (nI p)]) (rest := [.int (nI a)]) rfl rfl rfl (Nat.le_of_ble_eq_true rfl) (Nat.le_of_ble_eq_true rfl) (c_quotZ (d + 2) (t4 - 1) p ((mU s1.1 44 0 (nI t4)), s1.2) (by omega) (by omega)) ?_
  refine w_blk 1 (pc' := 56) (ls' := [some (.ref 44), some (.ref 13), some (.int (nI a)), some (.int (nI p)), some (.int (nI b)), some (.int (nI q)), some (.int (nI al)), none, none, none, none]) (sk' := [.int ((nI a) * (nI ((t4 - 1) / p)))]) (st' := ((mU s1.1 44 0 (nI t4)), s1.2)) (fun _ h => h) ?_
  rw [show ((nI a) * (nI ((t4 - 1) / p))) = nI (a * ((t4 - 1) / p)) from pk_mul a ((t4 - 1) / p)]
  refine w_blk 3 (pc' := 62) (ls' := [some (.ref 44), some (.ref 13), some (.int (nI a)), some (.int (nI p)), some (.int (nI b)), some (.int (nI q)), some (.int (nI al)), some (.int (nI (a * ((t4 - 1) / p)))), none, none, none]) (sk' := [.int (s1.1 44 5)]) (st' := ((mU s1.1 44 0 (nI t4)), s1.2)) (fun _ h => h) ?_
  rw [hE_2.2.2.1]
  refine w_blk 4 (pc' := 68) (ls' := [some (.ref 44), some (.ref 13), some (.int (nI a)), some (.int (nI p)), some (.int (nI b)), some (.int (nI q)), some (.int (nI al)), some (.int (nI (a * ((t4 - 1) / p)))), none, none, none]) (sk' := [.int ((nI t4) - 1), .int (nI b)]) (st' := ((mU s1.1 44 0 (nI t4)), s1.2)) (fun _ h => h) ?_
  rw [show ((nI t4) - 1) = nI (t4 - 1) from pk_sub (a := t4) (b := 1) (by omega)]
  refine w_blk 2 (pc' := 72) (ls' := [some (.ref 44), some (.ref 13), some (.int (nI a)), some (.int (nI p)), some (.int (nI b)), some (.int (nI q)), some (.int (nI al)), some (.int (nI (a * ((t4 - 1) / p)))), none, none, none]) (sk' := [.int (s1.1 44 6), .int (nI (t4 - 1)), .int (nI b)]) (st' := ((mU s1.1 44 0 (nI t4)), s1.2)) (fun _ h => h) ?_
  rw [hE_2.2.2.2]
  refine w_callS (As := [.int (nI (t4 - 1)), .int (nI q)]) (rest := [.int (nI b)]) rfl rfl rfl (Nat.le_of_ble_eq_true rfl) (Nat.le_of_ble_eq_true rfl) (c_quotZ (d + 2) (t4 - 1) q ((mU s1.1 44 0 (nI t4)), s1.2) (by omega) (by omega)) ?_
  refine w_blk 1 (pc' := 76) (ls' := [some (.ref 44), some (.ref 13), some (.int (nI a)), some (.int (nI p)), some (.int (nI b)), some (.int (nI q)), some (.int (nI al)), some (.int (nI (a * ((t4 - 1) / p)))), none, none, none]) (sk' := [.int ((nI b) * (nI ((t4 - 1) / q)))]) (st' := ((mU s1.1 44 0 (nI t4)), s1.2)) (fun _ h => h) ?_
  rw [show ((nI b) * (nI ((t4 - 1) / q))) = nI (b * ((t4 - 1) / q)) from pk_mul b ((t4 - 1) / q)]
  refine w_blk 4 (pc' := 83) (ls' := [some (.ref 44), some (.ref 13), some (.int (nI a)), some (.int (nI p)), some (.int (nI b)), some (.int (nI q)), some (.int (nI al)), some (.int (nI (a * ((t4 - 1) / p)))), some (.int (nI (b * ((t4 - 1) / q)))), none, none]) (sk' := [.int ((nI al) - (nI (a * ((t4 - 1) / p))))]) (st' := ((mU s1.1 44 0 (nI t4)), s1.2)) (fun _ h => h) ?_
  rw [show ((nI al) - (nI (a * ((t4 - 1) / p)))) = nI (al - (a * ((t4 - 1) / p))) from pk_sub (a := al) (b := a * ((t4 - 1) / p)) (by omega)]
  refine w_blk 2 (pc' := 86) (ls' := [some (.ref 44), some (.ref 13), some (.int (nI a)), some (.int (nI p)), some (.int (nI b)), some (.int (nI q)), some (.int (nI al)), some (.int (nI (a * ((t4 - 1) / p)))), some (.int (nI (b * ((t4 - 1) / q)))), none, none]) (sk' := [.int ((nI (al - (a * ((t4 - 1) / p)))) - (nI (b * ((t4 - 1) / q))))]) (st' := ((mU s1.1 44 0 (nI t4)), s1.2)) (fun _ h => h) ?_
  rw [show ((nI (al - (a * ((t4 - 1) / p)))) - (nI (b * ((t4 - 1) / q)))) = nI ((al - (a * ((t4 - 1) / p))) - (b * ((t4 - 1) / q))) from pk_sub (a := al - (a * ((t4 - 1) / p))) (b := b * ((t4 - 1) / q)) (by omega)]
  refine w_blk 5 (pc' := 96) (ls' := [some (.ref 44), some (.ref 13), some (.int (nI a)), some (.int (nI p)), some (.int (nI b)), some (.int (nI q)), some (.int (nI al)), some (.int (nI (a * ((t4 - 1) / p)))), some (.int (nI (b * ((t4 - 1) / q)))), some (.int (nI ((al - (a * ((t4 - 1) / p))) - (b * ((t4 - 1) / q))))), none]) (sk' := [.int (s1.1 44 4), .int (nI t4)]) (st' := ((mU s1.1 44 0 (nI t4)), s1.2)) (fun _ h => h) ?_
  rw [hE_2.2.1]
  refine w_callS (As := [.int (nI t4), .int (nI p)]) (rest := []) rfl rfl rfl (Nat.le_of_ble_eq_true rfl) (Nat.le_of_ble_eq_true rfl) (c_remK (d + 2) t4 p ((mU s1.1 44 0 (nI t4)), s1.2) (by omega) (by omega) (by omega)) ?_
  refine w_if_ne rfl (fun h1 => ?_) (fun h1 => ?_)
  · replace h1 : ¬ (t4 % p = 0) := fun hh => h1 ((nI_eq (a := (t4 % p)) (b := 0) (by omega) (by omega)).mpr hh)
    have hsk : skt a p t4 = 0 := if_neg h1
    have hfst : fst_ al a p b q t4 = a * ((t4 - 1) / p) + min 0 (al - a * ((t4 - 1) / p) - b * ((t4 - 1) / q)) := by unfold fst_; rw [hsk]
    have hplc : plc al a p b q t4 = (if al - a * ((t4 - 1) / p) - b * ((t4 - 1) / q) ≤ 0 then al - b * ((t4 - 1) / q) - 1 else fst_ al a p b q t4) := by unfold plc; rw [hsk]
    refine w_blk 6 (pc' := 119) (ls' := [some (.ref 44), some (.ref 13), some (.int (nI a)), some (.int (nI p)), some (.int (nI b)), some (.int (nI q)), some (.int (nI al)), some (.int (nI (a * ((t4 - 1) / p)))), some (.int (nI (b * ((t4 - 1) / q)))), some (.int (nI ((al - (a * ((t4 - 1) / p))) - (b * ((t4 - 1) / q))))), some (.int 0)]) (sk' := [.int (nI ((al - (a * ((t4 - 1) / p))) - (b * ((t4 - 1) / q)))), .int 0, .int (nI (a * ((t4 - 1) / p))), .ref 44]) (st' := ((mU s1.1 44 0 (nI t4)), s1.2)) (fun _ h => h) ?_
    refine w_callS (As := [.int 0, .int (nI ((al - (a * ((t4 - 1) / p))) - (b * ((t4 - 1) / q))))]) (rest := [.int (nI (a * ((t4 - 1) / p))), .ref 44]) rfl rfl rfl (Nat.le_of_ble_eq_true rfl) (Nat.le_of_ble_eq_true rfl) (c_minK (d + 2) 0 ((al - (a * ((t4 - 1) / p))) - (b * ((t4 - 1) / q))) ((mU s1.1 44 0 (nI t4)), s1.2) (by omega) (by omega)) ?_
    refine w_blk 1 (pc' := 123) (ls' := [some (.ref 44), some (.ref 13), some (.int (nI a)), some (.int (nI p)), some (.int (nI b)), some (.int (nI q)), some (.int (nI al)), some (.int (nI (a * ((t4 - 1) / p)))), some (.int (nI (b * ((t4 - 1) / q)))), some (.int (nI ((al - (a * ((t4 - 1) / p))) - (b * ((t4 - 1) / q))))), some (.int 0)]) (sk' := [.int ((nI (a * ((t4 - 1) / p))) + (nI (min 0 ((al - (a * ((t4 - 1) / p))) - (b * ((t4 - 1) / q)))))), .ref 44]) (st' := ((mU s1.1 44 0 (nI t4)), s1.2)) (fun _ h => h) ?_
    rw [show ((nI (a * ((t4 - 1) / p))) + (nI (min 0 ((al - (a * ((t4 - 1) / p))) - (b * ((t4 - 1) / q)))))) = nI ((a * ((t4 - 1) / p)) + (min 0 ((al - (a * ((t4 - 1) / p))) - (b * ((t4 - 1) / q))))) from nI_add (a * ((t4 - 1) / p)) (min 0 ((al - (a * ((t4 - 1) / p))) - (b * ((t4 - 1) / q))))]
    refine w_blk 1 (pc' := 126) (ls' := [some (.ref 44), some (.ref 13), some (.int (nI a)), some (.int (nI p)), some (.int (nI b)), some (.int (nI q)), some (.int (nI al)), some (.int (nI (a * ((t4 - 1) / p)))), some (.int (nI (b * ((t4 - 1) / q)))), some (.int (nI ((al - (a * ((t4 - 1) / p))) - (b * ((t4 - 1) / q))))), some (.int 0)]) (sk' := []) (st' := ((mU (mU s1.1 44 0 (nI t4)) 44 2 (nI ((a * ((t4 - 1) / p)) + (min 0 ((al - (a * ((t4 - 1) / p))) - (b * ((t4 - 1) / q))))))), s1.2)) (fun _ h => h) ?_
    have hV_9 : (((mU (mU s1.1 44 0 (nI t4)) 44 2 (nI ((a * ((t4 - 1) / p)) + (min 0 ((al - (a * ((t4 - 1) / p))) - (b * ((t4 - 1) / q))))))), s1.2)).1 44 0 = nI t4 ∧ (((mU (mU s1.1 44 0 (nI t4)) 44 2 (nI ((a * ((t4 - 1) / p)) + (min 0 ((al - (a * ((t4 - 1) / p))) - (b * ((t4 - 1) / q))))))), s1.2)).1 44 2 = nI (fst_ al a p b q t4) := ⟨rfl, congrArg nI hfst.symm⟩
    have hF_10 : Fr [44] st ((mU (mU s1.1 44 0 (nI t4)) 44 2 (nI ((a * ((t4 - 1) / p)) + (min 0 ((al - (a * ((t4 - 1) / p))) - (b * ((t4 - 1) / q))))))), s1.2) := (Fr.trans (Fr.trans hfr (Fr.mU (by decide))) (Fr.mU (by decide)))
    generalize ((mU (mU s1.1 44 0 (nI t4)) 44 2 (nI ((a * ((t4 - 1) / p)) + (min 0 ((al - (a * ((t4 - 1) / p))) - (b * ((t4 - 1) / q))))))), s1.2) = s8 at hV_9 hF_10 ⊢
    have hX2 : X13 s8 n c := X13_fr hF_10 (by decide) hX
    refine w_blk 4 (pc' := 132) (ls' := [some (.ref 44), some (.ref 13), some (.int (nI a)), some (.int (nI p)), some (.int (nI b)), some (.int (nI q)), some (.int (nI al)), some (.int (nI (a * ((t4 - 1) / p)))), some (.int (nI (b * ((t4 - 1) / q)))), some (.int (nI ((al - (a * ((t4 - 1) / p))) - (b * ((t4 - 1) / q))))), some (.int 0)]) (sk' := [.int (nI ((al - (a * ((t4 - 1) / p))) - (b * ((t4 - 1) / q)))), .int 0, .ref 13, .ref 44]) (st' := s8) (fun _ h => h) ?_
    refine w_cmp_lt rfl (fun h2 => ?_) (fun h2 => ?_)
    · replace h2 : 0 < (al - (a * ((t4 - 1) / p))) - (b * ((t4 - 1) / q)) := (nI_ltI (a := 0) (b := ((al - (a * ((t4 - 1) / p))) - (b * ((t4 - 1) / q)))) (by omega) (by omega)).mp h2
      refine w_blk 2 (pc' := 149) (ls' := [some (.ref 44), some (.ref 13), some (.int (nI a)), some (.int (nI p)), some (.int (nI b)), some (.int (nI q)), some (.int (nI al)), some (.int (nI (a * ((t4 - 1) / p)))), some (.int (nI (b * ((t4 - 1) / q)))), some (.int (nI ((al - (a * ((t4 - 1) / p))) - (b * ((t4 - 1) / q))))), some (.int 0)]) (sk' := [.int (s8.1 44 2), .ref 13, .ref 44]) (st' := s8) (fun _ h => h) ?_
      rw [hV_9.2]
      have hplc2 : plc al a p b q t4 = fst_ al a p b q t4 := hplc.trans (if_neg (by omega))
      have hlt : fst_ al a p b q t4 < (sm (cl c) (n 2)) := by rw [← hal]; omega
      obtain ⟨y11, _, hc_12, hy_13, rfl⟩ := c_yoc_13 (d + 0) n c (fst_ al a p b q t4) s8 hX2 hB (by omega)
      refine w_callV (As := [.ref 13, .int (nI (fst_ al a p b q t4))]) (rest := [.ref 44]) rfl rfl rfl (Nat.le_of_ble_eq_true rfl) (Nat.le_of_ble_eq_true rfl) (by first | exact Or.inl ⟨rfl, rfl⟩ | exact Or.inr ⟨rfl, rfl⟩) hc_12 ?_
      refine w_blk 1 (pc' := 155) (ls' := [some (.ref 44), some (.ref 13), some (.int (nI a)), some (.int (nI p)), some (.int (nI b)), some (.int (nI q)), some (.int (nI al)), some (.int (nI (a * ((t4 - 1) / p)))), some (.int (nI (b * ((t4 - 1) / q)))), some (.int (nI ((al - (a * ((t4 - 1) / p))) - (b * ((t4 - 1) / q))))), some (.int 0)]) (sk' := []) (st' := ((mU s8.1 44 1 (nI y11)), s8.2)) (fun _ h => h) ?_
      exact w_vret rfl rfl (hq t4 _ _ (by rw [← hal, hplc2]; exact ⟨ht_6, hy_13, hV_9.1, rfl, hV_9.2, Fr.trans hF_10 (Fr.mU (by decide))⟩))
    · replace h2 : ¬ (0 < (al - (a * ((t4 - 1) / p))) - (b * ((t4 - 1) / q))) := fun hh => h2 ((nI_ltI (a := 0) (b := ((al - (a * ((t4 - 1) / p))) - (b * ((t4 - 1) / q)))) (by omega) (by omega)).mpr hh)
      refine w_blk 3 (pc' := 140) (ls' := [some (.ref 44), some (.ref 13), some (.int (nI a)), some (.int (nI p)), some (.int (nI b)), some (.int (nI q)), some (.int (nI al)), some (.int (nI (a * ((t4 - 1) / p)))), some (.int (nI (b * ((t4 - 1) / q)))), some (.int (nI ((al - (a * ((t4 - 1) / p))) - (b * ((t4 - 1) / q))))), some (.int 0)]) (sk' := [.int ((nI al) - (nI (b * ((t4 - 1) / q)))), .ref 13, .ref 44]) (st' := s8) (fun _ h => h) ?_
      rw [show ((nI al) - (nI (b * ((t4 - 1) / q)))) = nI (al - (b * ((t4 - 1) / q))) from pk_sub (a := al) (b := b * ((t4 - 1) / q)) (by omega)]
      refine w_blk 2 (pc' := 142) (ls' := [some (.ref 44), some (.ref 13), some (.int (nI a)), some (.int (nI p)), some (.int (nI b)), some (.int (nI q)), some (.int (nI al)), some (.int (nI (a * ((t4 - 1) / p)))), some (.int (nI (b * ((t4 - 1) / q)))), some (.int (nI ((al - (a * ((t4 - 1) / p))) - (b * ((t4 - 1) / q))))), some (.int 0)]) (sk' := [.int ((nI (al - (b * ((t4 - 1) / q)))) - 1), .ref 13, .ref 44]) (st' := s8) (fun _ h => h) ?_
      rw [show ((nI (al - (b * ((t4 - 1) / q)))) - 1) = nI ((al - (b * ((t4 - 1) / q))) - 1) from pk_sub (a := al - (b * ((t4 - 1) / q))) (b := 1) (by omega)]
      refine w_blk 1 (pc' := 149) (ls' := [some (.ref 44), some (.ref 13), some (.int (nI a)), some (.int (nI p)), some (.int (nI b)), some (.int (nI q)), some (.int (nI al)), some (.int (nI (a * ((t4 - 1) / p)))), some (.int (nI (b * ((t4 - 1) / q)))), some (.int (nI ((al - (a * ((t4 - 1) / p))) - (b * ((t4 - 1) / q))))), some (.int 0)]) (sk' := [.int (nI ((al - (b * ((t4 - 1) / q))) - 1)), .ref 13, .ref 44]) (st' := s8) (fun _ h => h) ?_
      have hplc2 : plc al a p b q t4 = (al - (b * ((t4 - 1) / q))) - 1 := hplc.trans (if_pos (by omega))
      have hlt : (al - (b * ((t4 - 1) / q))) - 1 < (sm (cl c) (n 2)) := by rw [← hal]; omega
      obtain ⟨y14, _, hc_15, hy_16, rfl⟩ := c_yoc_13 (d + 0) n c ((al - (b * ((t4 - 1) / q))) - 1) s8 hX2 hB (by omega)
      refine w_callV (As := [.ref 13, .int (nI ((al - (b * ((t4 - 1) / q))) - 1))]) (rest := [.ref 44]) rfl rfl rfl (Nat.le_of_ble_eq_true rfl) (Nat.le_of_ble_eq_true rfl) (by first | exact Or.inl ⟨rfl, rfl⟩ | exact Or.inr ⟨rfl, rfl⟩) hc_15 ?_
      refine w_blk 1 (pc' := 155) (ls' := [some (.ref 44), some (.ref 13), some (.int (nI a)), some (.int (nI p)), some (.int (nI b)), some (.int (nI q)), some (.int (nI al)), some (.int (nI (a * ((t4 - 1) / p)))), some (.int (nI (b * ((t4 - 1) / q)))), some (.int (nI ((al - (a * ((t4 - 1) / p))) - (b * ((t4 - 1) / q))))), some (.int 0)]) (sk' := []) (st' := ((mU s8.1 44 1 (nI y14)), s8.2)) (fun _ h => h) ?_
      exact w_vret rfl rfl (hq t4 _ _ (by rw [← hal, hplc2]; exact ⟨ht_6, hy_16, hV_9.1, rfl, hV_9.2, Fr.trans hF_10 (Fr.mU (by decide))⟩))
  · replace h1 : t4 % p = 0 := (nI_eq (a := (t4 % p)) (b := 0) (by omega) (by omega)).mp (Decidable.not_not.mp h1)
    have hsk : skt a p t4 = a := if_pos h1
    have hfst : fst_ al a p b q t4 = a * ((t4 - 1) / p) + min a (al - a * ((t4 - 1) / p) - b * ((t4 - 1) / q)) := by unfold fst_; rw [hsk]
    have hplc : plc al a p b q t4 = (if al - a * ((t4 - 1) / p) - b * ((t4 - 1) / q) ≤ a then al - b * ((t4 - 1) / q) - 1 else fst_ al a p b q t4) := by unfold plc; rw [hsk]
    refine w_blk 2 (pc' := 106) (ls' := [some (.ref 44), some (.ref 13), some (.int (nI a)), some (.int (nI p)), some (.int (nI b)), some (.int (nI q)), some (.int (nI al)), some (.int (nI (a * ((t4 - 1) / p)))), some (.int (nI (b * ((t4 - 1) / q)))), some (.int (nI ((al - (a * ((t4 - 1) / p))) - (b * ((t4 - 1) / q))))), none]) (sk' := [.int (s1.1 44 3)]) (st' := ((mU s1.1 44 0 (nI t4)), s1.2)) (fun _ h => h) ?_
    rw [hE_2.1]
    refine w_blk 6 (pc' := 119) (ls' := [some (.ref 44), some (.ref 13), some (.int (nI a)), some (.int (nI p)), some (.int (nI b)), some (.int (nI q)), some (.int (nI al)), some (.int (nI (a * ((t4 - 1) / p)))), some (.int (nI (b * ((t4 - 1) / q)))), some (.int (nI ((al - (a * ((t4 - 1) / p))) - (b * ((t4 - 1) / q))))), some (.int (nI a))]) (sk' := [.int (nI ((al - (a * ((t4 - 1) / p))) - (b * ((t4 - 1) / q)))), .int (nI a), .int (nI (a * ((t4 - 1) / p))), .ref 44]) (st' := ((mU s1.1 44 0 (nI t4)), s1.2)) (fun _ h => h) ?_
    refine w_callS (As := [.int (nI a), .int (nI ((al - (a * ((t4 - 1) / p))) - (b * ((t4 - 1) / q))))]) (rest := [.int (nI (a * ((t4 - 1) / p))), .ref 44]) rfl rfl rfl (Nat.le_of_ble_eq_true rfl) (Nat.le_of_ble_eq_true rfl) (c_minK (d + 2) a ((al - (a * ((t4 - 1) / p))) - (b * ((t4 - 1) / q))) ((mU s1.1 44 0 (nI t4)), s1.2) (by omega) (by omega)) ?_
    refine w_blk 1 (pc' := 123) (ls' := [some (.ref 44), some (.ref 13), some (.int (nI a)), some (.int (nI p)), some (.int (nI b)), some (.int (nI q)), some (.int (nI al)), some (.int (nI (a * ((t4 - 1) / p)))), some (.int (nI (b * ((t4 - 1) / q)))), some (.int (nI ((al - (a * ((t4 - 1) / p))) - (b * ((t4 - 1) / q))))), some (.int (nI a))]) (sk' := [.int ((nI (a * ((t4 - 1) / p))) + (nI (min a ((al - (a * ((t4 - 1) / p))) - (b * ((t4 - 1) / q)))))), .ref 44]) (st' := ((mU s1.1 44 0 (nI t4)), s1.2)) (fun _ h => h) ?_
    rw [show ((nI (a * ((t4 - 1) / p))) + (nI (min a ((al - (a * ((t4 - 1) / p))) - (b * ((t4 - 1) / q)))))) = nI ((a * ((t4 - 1) / p)) + (min a ((al - (a * ((t4 - 1) / p))) - (b * ((t4 - 1) / q))))) from nI_add (a * ((t4 - 1) / p)) (min a ((al - (a * ((t4 - 1) / p))) - (b * ((t4 - 1) / q))))]
    refine w_blk 1 (pc' := 126) (ls' := [some (.ref 44), some (.ref 13), some (.int (nI a)), some (.int (nI p)), some (.int (nI b)), some (.int (nI q)), some (.int (nI al)), some (.int (nI (a * ((t4 - 1) / p)))), some (.int (nI (b * ((t4 - 1) / q)))), some (.int (nI ((al - (a * ((t4 - 1) / p))) - (b * ((t4 - 1) / q))))), some (.int (nI a))]) (sk' := []) (st' := ((mU (mU s1.1 44 0 (nI t4)) 44 2 (nI ((a * ((t4 - 1) / p)) + (min a ((al - (a * ((t4 - 1) / p))) - (b * ((t4 - 1) / q))))))), s1.2)) (fun _ h => h) ?_
    have hV_18 : (((mU (mU s1.1 44 0 (nI t4)) 44 2 (nI ((a * ((t4 - 1) / p)) + (min a ((al - (a * ((t4 - 1) / p))) - (b * ((t4 - 1) / q))))))), s1.2)).1 44 0 = nI t4 ∧ (((mU (mU s1.1 44 0 (nI t4)) 44 2 (nI ((a * ((t4 - 1) / p)) + (min a ((al - (a * ((t4 - 1) / p))) - (b * ((t4 - 1) / q))))))), s1.2)).1 44 2 = nI (fst_ al a p b q t4) := ⟨rfl, congrArg nI hfst.symm⟩
    have hF_19 : Fr [44] st ((mU (mU s1.1 44 0 (nI t4)) 44 2 (nI ((a * ((t4 - 1) / p)) + (min a ((al - (a * ((t4 - 1) / p))) - (b * ((t4 - 1) / q))))))), s1.2) := (Fr.trans (Fr.trans hfr (Fr.mU (by decide))) (Fr.mU (by decide)))
    generalize ((mU (mU s1.1 44 0 (nI t4)) 44 2 (nI ((a * ((t4 - 1) / p)) + (min a ((al - (a * ((t4 - 1) / p))) - (b * ((t4 - 1) / q))))))), s1.2) = s17 at hV_18 hF_19 ⊢
    have hX2 : X13 s17 n c := X13_fr hF_19 (by decide) hX
    refine w_blk 4 (pc' := 132) (ls' := [some (.ref 44), some (.ref 13), some (.int (nI a)), some (.int (nI p)), some (.int (nI b)), some (.int (nI q)), some (.int (nI al)), some (.int (nI (a * ((t4 - 1) / p)))), some (.int (nI (b * ((t4 - 1) / q)))), some (.int (nI ((al - (a * ((t4 - 1) / p))) - (b * ((t4 - 1) / q))))), some (.int (nI a))]) (sk' := [.int (nI ((al - (a * ((t4 - 1) / p))) - (b * ((t4 - 1) / q)))), .int (nI a), .ref 13, .ref 44]) (st' := s17) (fun _ h => h) ?_
    refine w_cmp_lt rfl (fun h2 => ?_) (fun h2 => ?_)
    · replace h2 : a < (al - (a * ((t4 - 1) / p))) - (b * ((t4 - 1) / q)) := (nI_ltI (a := a) (b := ((al - (a * ((t4 - 1) / p))) - (b * ((t4 - 1) / q)))) (by omega) (by omega)).mp h2
      refine w_blk 2 (pc' := 149) (ls' := [some (.ref 44), some (.ref 13), some (.int (nI a)), some (.int (nI p)), some (.int (nI b)), some (.int (nI q)), some (.int (nI al)), some (.int (nI (a * ((t4 - 1) / p)))), some (.int (nI (b * ((t4 - 1) / q)))), some (.int (nI ((al - (a * ((t4 - 1) / p))) - (b * ((t4 - 1) / q))))), some (.int (nI a))]) (sk' := [.int (s17.1 44 2), .ref 13, .ref 44]) (st' := s17) (fun _ h => h) ?_
      rw [hV_18.2]
      have hplc2 : plc al a p b q t4 = fst_ al a p b q t4 := hplc.trans (if_neg (by omega))
      have hlt : fst_ al a p b q t4 < (sm (cl c) (n 2)) := by rw [← hal]; omega
      obtain ⟨y20, _, hc_21, hy_22, rfl⟩ := c_yoc_13 (d + 0) n c (fst_ al a p b q t4) s17 hX2 hB (by omega)
      refine w_callV (As := [.ref 13, .int (nI (fst_ al a p b q t4))]) (rest := [.ref 44]) rfl rfl rfl (Nat.le_of_ble_eq_true rfl) (Nat.le_of_ble_eq_true rfl) (by first | exact Or.inl ⟨rfl, rfl⟩ | exact Or.inr ⟨rfl, rfl⟩) hc_21 ?_
      refine w_blk 1 (pc' := 155) (ls' := [some (.ref 44), some (.ref 13), some (.int (nI a)), some (.int (nI p)), some (.int (nI b)), some (.int (nI q)), some (.int (nI al)), some (.int (nI (a * ((t4 - 1) / p)))), some (.int (nI (b * ((t4 - 1) / q)))), some (.int (nI ((al - (a * ((t4 - 1) / p))) - (b * ((t4 - 1) / q))))), some (.int (nI a))]) (sk' := []) (st' := ((mU s17.1 44 1 (nI y20)), s17.2)) (fun _ h => h) ?_
      exact w_vret rfl rfl (hq t4 _ _ (by rw [← hal, hplc2]; exact ⟨ht_6, hy_22, hV_18.1, rfl, hV_18.2, Fr.trans hF_19 (Fr.mU (by decide))⟩))
    · replace h2 : ¬ (a < (al - (a * ((t4 - 1) / p))) - (b * ((t4 - 1) / q))) := fun hh => h2 ((nI_ltI (a := a) (b := ((al - (a * ((t4 - 1) / p))) - (b * ((t4 - 1) / q)))) (by omega) (by omega)).mpr hh)
      refine w_blk 3 (pc' := 140) (ls' := [some (.ref 44), some (.ref 13), some (.int (nI a)), some (.int (nI p)), some (.int (nI b)), some (.int (nI q)), some (.int (nI al)), some (.int (nI (a * ((t4 - 1) / p)))), some (.int (nI (b * ((t4 - 1) / q)))), some (.int (nI ((al - (a * ((t4 - 1) / p))) - (b * ((t4 - 1) / q))))), some (.int (nI a))]) (sk' := [.int ((nI al) - (nI (b * ((t4 - 1) / q)))), .ref 13, .ref 44]) (st' := s17) (fun _ h => h) ?_
      rw [show ((nI al) - (nI (b * ((t4 - 1) / q)))) = nI (al - (b * ((t4 - 1) / q))) from pk_sub (a := al) (b := b * ((t4 - 1) / q)) (by omega)]
      refine w_blk 2 (pc' := 142) (ls' := [some (.ref 44), some (.ref 13), some (.int (nI a)), some (.int (nI p)), some (.int (nI b)), some (.int (nI q)), some (.int (nI al)), some (.int (nI (a * ((t4 - 1) / p)))), some (.int (nI (b * ((t4 - 1) / q)))), some (.int (nI ((al - (a * ((t4 - 1) / p))) - (b * ((t4 - 1) / q))))), some (.int (nI a))]) (sk' := [.int ((nI (al - (b * ((t4 - 1) / q)))) - 1), .ref 13, .ref 44]) (st' := s17) (fun _ h => h) ?_
      rw [show ((nI (al - (b * ((t4 - 1) / q)))) - 1) = nI ((al - (b * ((t4 - 1) / q))) - 1) from pk_sub (a := al - (b * ((t4 - 1) / q))) (b := 1) (by omega)]
      refine w_blk 1 (pc' := 149) (ls' := [some (.ref 44), some (.ref 13), some (.int (nI a)), some (.int (nI p)), some (.int (nI b)), some (.int (nI q)), some (.int (nI al)), some (.int (nI (a * ((t4 - 1) / p)))), some (.int (nI (b * ((t4 - 1) / q)))), some (.int (nI ((al - (a * ((t4 - 1) / p))) - (b * ((t4 - 1) / q))))), some (.int (nI a))]) (sk' := [.int (nI ((al - (b * ((t4 - 1) / q))) - 1)), .ref 13, .ref 44]) (st' := s17) (fun _ h => h) ?_
      have hplc2 : plc al a p b q t4 = (al - (b * ((t4 - 1) / q))) - 1 := hplc.trans (if_pos (by omega))
      have hlt : (al - (b * ((t4 - 1) / q))) - 1 < (sm (cl c) (n 2)) := by rw [← hal]; omega
      obtain ⟨y23, _, hc_24, hy_25, rfl⟩ := c_yoc_13 (d + 0) n c ((al - (b * ((t4 - 1) / q))) - 1) s17 hX2 hB (by omega)
      refine w_callV (As := [.ref 13, .int (nI ((al - (b * ((t4 - 1) / q))) - 1))]) (rest := [.ref 44]) rfl rfl rfl (Nat.le_of_ble_eq_true rfl) (Nat.le_of_ble_eq_true rfl) (by first | exact Or.inl ⟨rfl, rfl⟩ | exact Or.inr ⟨rfl, rfl⟩) hc_24 ?_
      refine w_blk 1 (pc' := 155) (ls' := [some (.ref 44), some (.ref 13), some (.int (nI a)), some (.int (nI p)), some (.int (nI b)), some (.int (nI q)), some (.int (nI al)), some (.int (nI (a * ((t4 - 1) / p)))), some (.int (nI (b * ((t4 - 1) / q)))), some (.int (nI ((al - (a * ((t4 - 1) / p))) - (b * ((t4 - 1) / q))))), some (.int (nI a))]) (sk' := []) (st' := ((mU s17.1 44 1 (nI y23)), s17.2)) (fun _ h => h) ?_
      exact w_vret rfl rfl (hq t4 _ _ (by rw [← hal, hplc2]; exact ⟨ht_6, hy_25, hV_18.1, rfl, hV_18.2, Fr.trans hF_19 (Fr.mU (by decide))⟩))
set_option maxRecDepth 20000 in
/-- meeting -/
theorem x_meeting_5 (d : Nat) (n : Nat → Nat) (c : Nat → Nat → Nat) (a p b q wh : Int32) (st : mSt) (hcw : st.1 0 1 = nI 5) (hX : X5 st n c) (hB : CB n c) : ∃ (r : Int32) (s : mSt), mMC mT (d + 5) 101 [.ref 0, .int a, .int p, .int b, .int q, .int wh] st (some (.int r)) s ∧ MGs n c a p b q wh r ∧ Fr [44] st s := by
  suffices H : ∀ Q : Option Value → mSt → Prop, (∀ (r : Int32) (s : mSt), (MGs n c a p b q wh r ∧ Fr [44] st s) → Q (some (.int r)) s) → mW (mMC mT (d + 4)) (0, fun _ => 0) (mAtL P_X9_meeting) (some .int) Q 0 [some (.ref 0), some (.int a), some (.int p), some (.int b), some (.int q), some (.int wh), none] [] st by
    obtain ⟨_, _, ⟨r, s, rfl, rfl, hp⟩, hw⟩ := mW_ex (H (fun vv tt => ∃ (r : Int32) (s : mSt),  vv = some (.int r) ∧ s = tt ∧ MGs n c a p b q wh r ∧ Fr [44] st s) (fun r s hp => ⟨r, s, rfl, rfl, hp⟩))
    exact ⟨r, s, mI_X9_meeting (d := d + 4) (Nat.le_of_ble_eq_true rfl) hw, hp⟩
  intro Q hq
  have hcr : (st.1 0 1).toNatClampNeg = 5 := by rw [hcw]; rfl
  obtain ⟨hb0, hb1, hb2, hbd, hbs, hby⟩ := id hB
  refine w_blk 3 (pc' := 4) (ls' := [some (.ref 0), some (.int a), some (.int p), some (.int b), some (.int q), some (.int wh), none]) (sk' := [.int 99, .int 1, .int a]) (st' := st) (fun _ h => h) ?_
  refine w_callS (As := [.int a, .int 1, .int 99]) (rest := []) rfl rfl rfl (Nat.le_of_ble_eq_true rfl) (Nat.le_of_ble_eq_true rfl) (c_within (d + 3) a 1 99 st) ?_
  refine w_if_eq rfl (fun h1 => ?_) (fun h1 => ?_)
  · replace h1 := pI_eq0.mp h1
    refine w_blk 3 (pc' := 50) (ls' := [some (.ref 0), some (.int a), some (.int p), some (.int b), some (.int q), some (.int wh), some (.int 0)]) (sk' := [.int 0]) (st' := st) (fun _ h => h) ?_
    refine w_if_eq rfl (fun _ => ?_) (fun hno => absurd (by decide) hno)
    refine w_blk 1 (pc' := 64) (ls' := [some (.ref 0), some (.int a), some (.int p), some (.int b), some (.int q), some (.int wh), some (.int 0)]) (sk' := [.int (-1)]) (st' := st) (fun _ h => h) ?_
    have hno : ¬ okM a p b q wh := fun hh => by first | exact h1 hh.1 | exact h2 hh.2.1 | exact h3 hh.2.2.1 | exact h4 hh.2.2.2.1 | exact h5 hh.2.2.2.2
    exact w_iret rfl rfl rfl (hq _ st ⟨⟨fun _ => rfl, fun hh => absurd hh hno, fun hh => absurd hh hno⟩, Fr.rf⟩)
  · replace h1 := pI_ne.mp h1
    refine w_blk 3 (pc' := 14) (ls' := [some (.ref 0), some (.int a), some (.int p), some (.int b), some (.int q), some (.int wh), none]) (sk' := [.int 99, .int 1, .int p]) (st' := st) (fun _ h => h) ?_
    refine w_callS (As := [.int p, .int 1, .int 99]) (rest := []) rfl rfl rfl (Nat.le_of_ble_eq_true rfl) (Nat.le_of_ble_eq_true rfl) (c_within (d + 3) p 1 99 st) ?_
    refine w_if_eq rfl (fun h2 => ?_) (fun h2 => ?_)
    · replace h2 := pI_eq0.mp h2
      refine w_blk 3 (pc' := 50) (ls' := [some (.ref 0), some (.int a), some (.int p), some (.int b), some (.int q), some (.int wh), some (.int 0)]) (sk' := [.int 0]) (st' := st) (fun _ h => h) ?_
      refine w_if_eq rfl (fun _ => ?_) (fun hno => absurd (by decide) hno)
      refine w_blk 1 (pc' := 64) (ls' := [some (.ref 0), some (.int a), some (.int p), some (.int b), some (.int q), some (.int wh), some (.int 0)]) (sk' := [.int (-1)]) (st' := st) (fun _ h => h) ?_
      have hno : ¬ okM a p b q wh := fun hh => by first | exact h1 hh.1 | exact h2 hh.2.1 | exact h3 hh.2.2.1 | exact h4 hh.2.2.2.1 | exact h5 hh.2.2.2.2
      exact w_iret rfl rfl rfl (hq _ st ⟨⟨fun _ => rfl, fun hh => absurd hh hno, fun hh => absurd hh hno⟩, Fr.rf⟩)
    · replace h2 := pI_ne.mp h2
      refine w_blk 3 (pc' := 24) (ls' := [some (.ref 0), some (.int a), some (.int p), some (.int b), some (.int q), some (.int wh), none]) (sk' := [.int 99, .int 1, .int b]) (st' := st) (fun _ h => h) ?_
      refine w_callS (As := [.int b, .int 1, .int 99]) (rest := []) rfl rfl rfl (Nat.le_of_ble_eq_true rfl) (Nat.le_of_ble_eq_true rfl) (c_within (d + 3) b 1 99 st) ?_
      refine w_if_eq rfl (fun h3 => ?_) (fun h3 => ?_)
      · replace h3 := pI_eq0.mp h3
        refine w_blk 3 (pc' := 50) (ls' := [some (.ref 0), some (.int a), some (.int p), some (.int b), some (.int q), some (.int wh), some (.int 0)]) (sk' := [.int 0]) (st' := st) (fun _ h => h) ?_
        refine w_if_eq rfl (fun _ => ?_) (fun hno => absurd (by decide) hno)
        refine w_blk 1 (pc' := 64) (ls' := [some (.ref 0), some (.int a), some (.int p), some (.int b), some (.int q), some (.int wh), some (.int 0)]) (sk' := [.int (-1)]) (st' := st) (fun _ h => h) ?_
        have hno : ¬ okM a p b q wh := fun hh => by first | exact h1 hh.1 | exact h2 hh.2.1 | exact h3 hh.2.2.1 | exact h4 hh.2.2.2.1 | exact h5 hh.2.2.2.2
        exact w_iret rfl rfl rfl (hq _ st ⟨⟨fun _ => rfl, fun hh => absurd hh hno, fun hh => absurd hh hno⟩, Fr.rf⟩)
      · replace h3 := pI_ne.mp h3
        refine w_blk 3 (pc' := 35) (ls' := [some (.ref 0), some (.int a), some (.int p), some (.int b), some (.int q), some (.int wh), none]) (sk' := [.int 99, .int 1, .int q]) (st' := st) (fun _ h => h) ?_
        refine w_callS (As := [.int q, .int 1, .int 99]) (rest := []) rfl rfl rfl (Nat.le_of_ble_eq_true rfl) (Nat.le_of_ble_eq_true rfl) (c_within (d + 3) q 1 99 st) ?_
        refine w_if_eq rfl (fun h4 => ?_) (fun h4 => ?_)
        · replace h4 := pI_eq0.mp h4
          refine w_blk 3 (pc' := 50) (ls' := [some (.ref 0), some (.int a), some (.int p), some (.int b), some (.int q), some (.int wh), some (.int 0)]) (sk' := [.int 0]) (st' := st) (fun _ h => h) ?_
          refine w_if_eq rfl (fun _ => ?_) (fun hno => absurd (by decide) hno)
          refine w_blk 1 (pc' := 64) (ls' := [some (.ref 0), some (.int a), some (.int p), some (.int b), some (.int q), some (.int wh), some (.int 0)]) (sk' := [.int (-1)]) (st' := st) (fun _ h => h) ?_
          have hno : ¬ okM a p b q wh := fun hh => by first | exact h1 hh.1 | exact h2 hh.2.1 | exact h3 hh.2.2.1 | exact h4 hh.2.2.2.1 | exact h5 hh.2.2.2.2
          exact w_iret rfl rfl rfl (hq _ st ⟨⟨fun _ => rfl, fun hh => absurd hh hno, fun hh => absurd hh hno⟩, Fr.rf⟩)
        · replace h4 := pI_ne.mp h4
          refine w_blk 4 (pc' := 50) (ls' := [some (.ref 0), some (.int a), some (.int p), some (.int b), some (.int q), some (.int wh), some (.int 1)]) (sk' := [.int 1]) (st' := st) (fun _ h => h) ?_
          refine w_if_eq rfl (fun hno => absurd hno (by decide)) (fun _ => ?_)
          refine w_blk 3 (pc' := 57) (ls' := [some (.ref 0), some (.int a), some (.int p), some (.int b), some (.int q), some (.int wh), some (.int 1)]) (sk' := [.int 2, .int 0, .int wh]) (st' := st) (fun _ h => h) ?_
          refine w_callS (As := [.int wh, .int 0, .int 2]) (rest := []) rfl rfl rfl (Nat.le_of_ble_eq_true rfl) (Nat.le_of_ble_eq_true rfl) (c_within (d + 3) wh 0 2 st) ?_
          refine w_if_ne rfl (fun h5 => ?_) (fun h5 => ?_)
          · replace h5 := pI_ne.mp h5
            have hok : okM a p b q wh := ⟨h1, h2, h3, h4, h5⟩
            obtain ⟨a', ha1, ha9, rfl⟩ := nI_within (a := 1) (b := 99) h1 (by decide) (by decide)
            have eca := nI_clamp (show a' < 2 ^ 31 by omega)
            obtain ⟨p', hp1, hp9, rfl⟩ := nI_within (a := 1) (b := 99) h2 (by decide) (by decide)
            have ecp := nI_clamp (show p' < 2 ^ 31 by omega)
            obtain ⟨b', hb1, hb9, rfl⟩ := nI_within (a := 1) (b := 99) h3 (by decide) (by decide)
            have ecb := nI_clamp (show b' < 2 ^ 31 by omega)
            obtain ⟨q', hq1, hq9, rfl⟩ := nI_within (a := 1) (b := 99) h4 (by decide) (by decide)
            have ecq := nI_clamp (show q' < 2 ^ 31 by omega)
            refine w_blk 1 (pc' := 66) (ls' := [some (.ref 0), some (.int (nI a')), some (.int (nI p')), some (.int (nI b')), some (.int (nI q')), some (.int wh), some (.int 1)]) (sk' := [.ref 0]) (st' := st) (fun _ h => h) ?_
            refine w_blk 1 (pc' := 69) (ls' := [some (.ref 0), some (.int (nI a')), some (.int (nI p')), some (.int (nI b')), some (.int (nI q')), some (.int wh), some (.int 1)]) (sk' := [.ref (Int32.toNatClampNeg (st.1 0 1))]) (st' := st) (fun _ h => h) ?_
            rw [show Int32.toNatClampNeg (st.1 0 1) = 5 from hcr]
            refine w_blk 1 (pc' := 72) (ls' := [some (.ref 0), some (.int (nI a')), some (.int (nI p')), some (.int (nI b')), some (.int (nI q')), some (.int wh), some (.int 1)]) (sk' := [.int (st.1 5 2)]) (st' := st) (fun _ h => h) ?_
            rw [hX.2.2.1]
            refine w_if_ne rfl (fun h6 => ?_) (fun h6 => ?_)
            · replace h6 : ¬ (n 2 = 0) := fun hh => h6 ((nI_eq (a := (n 2)) (b := 0) (by omega) (by omega)).mpr hh)
              refine w_blk 3 (pc' := 83) (ls' := [some (.ref 0), some (.int (nI a')), some (.int (nI p')), some (.int (nI b')), some (.int (nI q')), some (.int wh), some (.int 1)]) (sk' := [.ref 0, .ref 44]) (st' := st) (fun _ h => h) ?_
              refine w_blk 1 (pc' := 86) (ls' := [some (.ref 0), some (.int (nI a')), some (.int (nI p')), some (.int (nI b')), some (.int (nI q')), some (.int wh), some (.int 1)]) (sk' := [.ref (Int32.toNatClampNeg (st.1 0 1)), .ref 44]) (st' := st) (fun _ h => h) ?_
              rw [show Int32.toNatClampNeg (st.1 0 1) = 5 from hcr]
              refine w_blk 4 (pc' := 91) (ls' := [some (.ref 0), some (.int (nI a')), some (.int (nI p')), some (.int (nI b')), some (.int (nI q')), some (.int wh), some (.int 1)]) (sk' := [.int (nI q'), .int (nI b'), .int (nI p'), .int (nI a'), .ref 5, .ref 44]) (st' := st) (fun _ h => h) ?_
              obtain ⟨t, y, s1, hc, hmt, hyo, e0, e1, e2, hf⟩ := c_hold_5 (d + 0) n c a' p' b' q' st hX hB h6 ha1 ha9 hp1 hp9 hb1 hb9 hq1 hq9
              refine w_callV (As := [.ref 44, .ref 5, .int (nI a'), .int (nI p'), .int (nI b'), .int (nI q')]) (rest := []) rfl rfl rfl (Nat.le_of_ble_eq_true rfl) (Nat.le_of_ble_eq_true rfl) (by first | exact Or.inl ⟨rfl, rfl⟩ | exact Or.inr ⟨rfl, rfl⟩) hc ?_
              refine w_blk 1 (pc' := 96) (ls' := [some (.ref 0), some (.int (nI a')), some (.int (nI p')), some (.int (nI b')), some (.int (nI q')), some (.int wh), some (.int 1)]) (sk' := [.int wh]) (st' := s1) (fun _ h => h) ?_
              by_cases hw0 : wh = 0
              · subst hw0
                refine w_lookup (o := 28) (t := 124) rfl (by decide) (by decide) rfl ?_
                refine w_blk 3 (pc' := 131) (ls' := [some (.ref 0), some (.int (nI a')), some (.int (nI p')), some (.int (nI b')), some (.int (nI q')), some (.int 0), some (.int 1)]) (sk' := [.int (s1.1 44 0)]) (st' := s1) (fun _ h => h) ?_
                rw [e0]
                exact w_iret rfl rfl rfl (hq _ s1 ⟨⟨fun hh => absurd hok hh, fun _ hh => absurd hh h6, fun _ _ => ⟨t, y, by rw [eca, ecp, ecb, ecq]; exact hmt, by rw [eca, ecp, ecb, ecq]; exact hyo, rfl⟩⟩, hf⟩)
              · by_cases hw1 : wh = 1
                · subst hw1
                  refine w_lookup (o := 36) (t := 132) rfl (by decide) (by decide) rfl ?_
                  refine w_blk 3 (pc' := 139) (ls' := [some (.ref 0), some (.int (nI a')), some (.int (nI p')), some (.int (nI b')), some (.int (nI q')), some (.int 1), some (.int 1)]) (sk' := [.int (s1.1 44 1)]) (st' := s1) (fun _ h => h) ?_
                  rw [e1]
                  exact w_iret rfl rfl rfl (hq _ s1 ⟨⟨fun hh => absurd hok hh, fun _ hh => absurd hh h6, fun _ _ => ⟨t, y, by rw [eca, ecp, ecb, ecq]; exact hmt, by rw [eca, ecp, ecb, ecq]; exact hyo, by rw [if_neg (by decide), if_pos rfl]⟩⟩, hf⟩)
                · refine w_lookup (o := 44) (t := 140) rfl (by decide) ((lv_osw hw0 rfl).trans ((lv_osw hw1 rfl).trans rfl)) rfl ?_
                  refine w_blk 3 (pc' := 147) (ls' := [some (.ref 0), some (.int (nI a')), some (.int (nI p')), some (.int (nI b')), some (.int (nI q')), some (.int wh), some (.int 1)]) (sk' := [.int (s1.1 44 2)]) (st' := s1) (fun _ h => h) ?_
                  rw [e2]
                  exact w_iret rfl rfl rfl (hq _ s1 ⟨⟨fun hh => absurd hok hh, fun _ hh => absurd hh h6, fun _ _ => ⟨t, y, by rw [eca, ecp, ecb, ecq]; exact hmt, by rw [eca, ecp, ecb, ecq]; exact hyo, by rw [if_neg hw0, if_neg hw1, eca, ecp, ecb, ecq]⟩⟩, hf⟩)
            · replace h6 : n 2 = 0 := (nI_eq (a := (n 2)) (b := 0) (by omega) (by omega)).mp (Decidable.not_not.mp h6)
              refine w_blk 1 (pc' := 77) (ls' := [some (.ref 0), some (.int (nI a')), some (.int (nI p')), some (.int (nI b')), some (.int (nI q')), some (.int wh), some (.int 1)]) (sk' := [.int (-9)]) (st' := st) (fun _ h => h) ?_
              exact w_iret rfl rfl rfl (hq _ st ⟨⟨fun hh => absurd hok hh, fun _ _ => rfl, fun _ hh => absurd h6 hh⟩, Fr.rf⟩)
          · replace h5 := pI_eq0.mp (Decidable.not_not.mp h5)
            refine w_blk 1 (pc' := 64) (ls' := [some (.ref 0), some (.int a), some (.int p), some (.int b), some (.int q), some (.int wh), some (.int 1)]) (sk' := [.int (-1)]) (st' := st) (fun _ h => h) ?_
            have hno : ¬ okM a p b q wh := fun hh => by first | exact h1 hh.1 | exact h2 hh.2.1 | exact h3 hh.2.2.1 | exact h4 hh.2.2.2.1 | exact h5 hh.2.2.2.2
            exact w_iret rfl rfl rfl (hq _ st ⟨⟨fun _ => rfl, fun hh => absurd hh hno, fun hh => absurd hh hno⟩, Fr.rf⟩)
set_option maxRecDepth 20000 in
/-- meeting -/
theorem x_meeting_13 (d : Nat) (n : Nat → Nat) (c : Nat → Nat → Nat) (a p b q wh : Int32) (st : mSt) (hcw : st.1 0 1 = nI 13) (hX : X13 st n c) (hB : CB n c) : ∃ (r : Int32) (s : mSt), mMC mT (d + 5) 101 [.ref 0, .int a, .int p, .int b, .int q, .int wh] st (some (.int r)) s ∧ MGs n c a p b q wh r ∧ Fr [44] st s := by
  suffices H : ∀ Q : Option Value → mSt → Prop, (∀ (r : Int32) (s : mSt), (MGs n c a p b q wh r ∧ Fr [44] st s) → Q (some (.int r)) s) → mW (mMC mT (d + 4)) (0, fun _ => 0) (mAtL P_X9_meeting) (some .int) Q 0 [some (.ref 0), some (.int a), some (.int p), some (.int b), some (.int q), some (.int wh), none] [] st by
    obtain ⟨_, _, ⟨r, s, rfl, rfl, hp⟩, hw⟩ := mW_ex (H (fun vv tt => ∃ (r : Int32) (s : mSt),  vv = some (.int r) ∧ s = tt ∧ MGs n c a p b q wh r ∧ Fr [44] st s) (fun r s hp => ⟨r, s, rfl, rfl, hp⟩))
    exact ⟨r, s, mI_X9_meeting (d := d + 4) (Nat.le_of_ble_eq_true rfl) hw, hp⟩
  intro Q hq
  have hcr : (st.1 0 1).toNatClampNeg = 13 := by rw [hcw]; rfl
  obtain ⟨hb0, hb1, hb2, hbd, hbs, hby⟩ := id hB
  refine w_blk 3 (pc' := 4) (ls' := [some (.ref 0), some (.int a), some (.int p), some (.int b), some (.int q), some (.int wh), none]) (sk' := [.int 99, .int 1, .int a]) (st' := st) (fun _ h => h) ?_
  refine w_callS (As := [.int a, .int 1, .int 99]) (rest := []) rfl rfl rfl (Nat.le_of_ble_eq_true rfl) (Nat.le_of_ble_eq_true rfl) (c_within (d + 3) a 1 99 st) ?_
  refine w_if_eq rfl (fun h1 => ?_) (fun h1 => ?_)
  · replace h1 := pI_eq0.mp h1
    refine w_blk 3 (pc' := 50) (ls' := [some (.ref 0), some (.int a), some (.int p), some (.int b), some (.int q), some (.int wh), some (.int 0)]) (sk' := [.int 0]) (st' := st) (fun _ h => h) ?_
    refine w_if_eq rfl (fun _ => ?_) (fun hno => absurd (by decide) hno)
    refine w_blk 1 (pc' := 64) (ls' := [some (.ref 0), some (.int a), some (.int p), some (.int b), some (.int q), some (.int wh), some (.int 0)]) (sk' := [.int (-1)]) (st' := st) (fun _ h => h) ?_
    have hno : ¬ okM a p b q wh := fun hh => by first | exact h1 hh.1 | exact h2 hh.2.1 | exact h3 hh.2.2.1 | exact h4 hh.2.2.2.1 | exact h5 hh.2.2.2.2
    exact w_iret rfl rfl rfl (hq _ st ⟨⟨fun _ => rfl, fun hh => absurd hh hno, fun hh => absurd hh hno⟩, Fr.rf⟩)
  · replace h1 := pI_ne.mp h1
    refine w_blk 3 (pc' := 14) (ls' := [some (.ref 0), some (.int a), some (.int p), some (.int b), some (.int q), some (.int wh), none]) (sk' := [.int 99, .int 1, .int p]) (st' := st) (fun _ h => h) ?_
    refine w_callS (As := [.int p, .int 1, .int 99]) (rest := []) rfl rfl rfl (Nat.le_of_ble_eq_true rfl) (Nat.le_of_ble_eq_true rfl) (c_within (d + 3) p 1 99 st) ?_
    refine w_if_eq rfl (fun h2 => ?_) (fun h2 => ?_)
    · replace h2 := pI_eq0.mp h2
      refine w_blk 3 (pc' := 50) (ls' := [some (.ref 0), some (.int a), some (.int p), some (.int b), some (.int q), some (.int wh), some (.int 0)]) (sk' := [.int 0]) (st' := st) (fun _ h => h) ?_
      refine w_if_eq rfl (fun _ => ?_) (fun hno => absurd (by decide) hno)
      refine w_blk 1 (pc' := 64) (ls' := [some (.ref 0), some (.int a), some (.int p), some (.int b), some (.int q), some (.int wh), some (.int 0)]) (sk' := [.int (-1)]) (st' := st) (fun _ h => h) ?_
      have hno : ¬ okM a p b q wh := fun hh => by first | exact h1 hh.1 | exact h2 hh.2.1 | exact h3 hh.2.2.1 | exact h4 hh.2.2.2.1 | exact h5 hh.2.2.2.2
      exact w_iret rfl rfl rfl (hq _ st ⟨⟨fun _ => rfl, fun hh => absurd hh hno, fun hh => absurd hh hno⟩, Fr.rf⟩)
    · replace h2 := pI_ne.mp h2
      refine w_blk 3 (pc' := 24) (ls' := [some (.ref 0), some (.int a), some (.int p), some (.int b), some (.int q), some (.int wh), none]) (sk' := [.int 99, .int 1, .int b]) (st' := st) (fun _ h => h) ?_
      refine w_callS (As := [.int b, .int 1, .int 99]) (rest := []) rfl rfl rfl (Nat.le_of_ble_eq_true rfl) (Nat.le_of_ble_eq_true rfl) (c_within (d + 3) b 1 99 st) ?_
      refine w_if_eq rfl (fun h3 => ?_) (fun h3 => ?_)
      · replace h3 := pI_eq0.mp h3
        refine w_blk 3 (pc' := 50) (ls' := [some (.ref 0), some (.int a), some (.int p), some (.int b), some (.int q), some (.int wh), some (.int 0)]) (sk' := [.int 0]) (st' := st) (fun _ h => h) ?_
        refine w_if_eq rfl (fun _ => ?_) (fun hno => absurd (by decide) hno)
        refine w_blk 1 (pc' := 64) (ls' := [some (.ref 0), some (.int a), some (.int p), some (.int b), some (.int q), some (.int wh), some (.int 0)]) (sk' := [.int (-1)]) (st' := st) (fun _ h => h) ?_
        have hno : ¬ okM a p b q wh := fun hh => by first | exact h1 hh.1 | exact h2 hh.2.1 | exact h3 hh.2.2.1 | exact h4 hh.2.2.2.1 | exact h5 hh.2.2.2.2
        exact w_iret rfl rfl rfl (hq _ st ⟨⟨fun _ => rfl, fun hh => absurd hh hno, fun hh => absurd hh hno⟩, Fr.rf⟩)
      · replace h3 := pI_ne.mp h3
        refine w_blk 3 (pc' := 35) (ls' := [some (.ref 0), some (.int a), some (.int p), some (.int b), some (.int q), some (.int wh), none]) (sk' := [.int 99, .int 1, .int q]) (st' := st) (fun _ h => h) ?_
        refine w_callS (As := [.int q, .int 1, .int 99]) (rest := []) rfl rfl rfl (Nat.le_of_ble_eq_true rfl) (Nat.le_of_ble_eq_true rfl) (c_within (d + 3) q 1 99 st) ?_
        refine w_if_eq rfl (fun h4 => ?_) (fun h4 => ?_)
        · replace h4 := pI_eq0.mp h4
          refine w_blk 3 (pc' := 50) (ls' := [some (.ref 0), some (.int a), some (.int p), some (.int b), some (.int q), some (.int wh), some (.int 0)]) (sk' := [.int 0]) (st' := st) (fun _ h => h) ?_
          refine w_if_eq rfl (fun _ => ?_) (fun hno => absurd (by decide) hno)
          refine w_blk 1 (pc' := 64) (ls' := [some (.ref 0), some (.int a), some (.int p), some (.int b), some (.int q), some (.int wh), some (.int 0)]) (sk' := [.int (-1)]) (st' := st) (fun _ h => h) ?_
          have hno : ¬ okM a p b q wh := fun hh => by first | exact h1 hh.1 | exact h2 hh.2.1 | exact h3 hh.2.2.1 | exact h4 hh.2.2.2.1 | exact h5 hh.2.2.2.2
          exact w_iret rfl rfl rfl (hq _ st ⟨⟨fun _ => rfl, fun hh => absurd hh hno, fun hh => absurd hh hno⟩, Fr.rf⟩)
        · replace h4 := pI_ne.mp h4
          refine w_blk 4 (pc' := 50) (ls' := [some (.ref 0), some (.int a), some (.int p), some (.int b), some (.int q), some (.int wh), some (.int 1)]) (sk' := [.int 1]) (st' := st) (fun _ h => h) ?_
          refine w_if_eq rfl (fun hno => absurd hno (by decide)) (fun _ => ?_)
          refine w_blk 3 (pc' := 57) (ls' := [some (.ref 0), some (.int a), some (.int p), some (.int b), some (.int q), some (.int wh), some (.int 1)]) (sk' := [.int 2, .int 0, .int wh]) (st' := st) (fun _ h => h) ?_
          refine w_callS (As := [.int wh, .int 0, .int 2]) (rest := []) rfl rfl rfl (Nat.le_of_ble_eq_true rfl) (Nat.le_of_ble_eq_true rfl) (c_within (d + 3) wh 0 2 st) ?_
          refine w_if_ne rfl (fun h5 => ?_) (fun h5 => ?_)
          · replace h5 := pI_ne.mp h5
            have hok : okM a p b q wh := ⟨h1, h2, h3, h4, h5⟩
            obtain ⟨a', ha1, ha9, rfl⟩ := nI_within (a := 1) (b := 99) h1 (by decide) (by decide)
            have eca := nI_clamp (show a' < 2 ^ 31 by omega)
            obtain ⟨p', hp1, hp9, rfl⟩ := nI_within (a := 1) (b := 99) h2 (by decide) (by decide)
            have ecp := nI_clamp (show p' < 2 ^ 31 by omega)
            obtain ⟨b', hb1, hb9, rfl⟩ := nI_within (a := 1) (b := 99) h3 (by decide) (by decide)
            have ecb := nI_clamp (show b' < 2 ^ 31 by omega)
            obtain ⟨q', hq1, hq9, rfl⟩ := nI_within (a := 1) (b := 99) h4 (by decide) (by decide)
            have ecq := nI_clamp (show q' < 2 ^ 31 by omega)
            refine w_blk 1 (pc' := 66) (ls' := [some (.ref 0), some (.int (nI a')), some (.int (nI p')), some (.int (nI b')), some (.int (nI q')), some (.int wh), some (.int 1)]) (sk' := [.ref 0]) (st' := st) (fun _ h => h) ?_
            refine w_blk 1 (pc' := 69) (ls' := [some (.ref 0), some (.int (nI a')), some (.int (nI p')), some (.int (nI b')), some (.int (nI q')), some (.int wh), some (.int 1)]) (sk' := [.ref (Int32.toNatClampNeg (st.1 0 1))]) (st' := st) (fun _ h => h) ?_
            rw [show Int32.toNatClampNeg (st.1 0 1) = 13 from hcr]
            refine w_blk 1 (pc' := 72) (ls' := [some (.ref 0), some (.int (nI a')), some (.int (nI p')), some (.int (nI b')), some (.int (nI q')), some (.int wh), some (.int 1)]) (sk' := [.int (st.1 13 2)]) (st' := st) (fun _ h => h) ?_
            rw [hX.2.2.1]
            refine w_if_ne rfl (fun h6 => ?_) (fun h6 => ?_)
            · replace h6 : ¬ (n 2 = 0) := fun hh => h6 ((nI_eq (a := (n 2)) (b := 0) (by omega) (by omega)).mpr hh)
              refine w_blk 3 (pc' := 83) (ls' := [some (.ref 0), some (.int (nI a')), some (.int (nI p')), some (.int (nI b')), some (.int (nI q')), some (.int wh), some (.int 1)]) (sk' := [.ref 0, .ref 44]) (st' := st) (fun _ h => h) ?_
              refine w_blk 1 (pc' := 86) (ls' := [some (.ref 0), some (.int (nI a')), some (.int (nI p')), some (.int (nI b')), some (.int (nI q')), some (.int wh), some (.int 1)]) (sk' := [.ref (Int32.toNatClampNeg (st.1 0 1)), .ref 44]) (st' := st) (fun _ h => h) ?_
              rw [show Int32.toNatClampNeg (st.1 0 1) = 13 from hcr]
              refine w_blk 4 (pc' := 91) (ls' := [some (.ref 0), some (.int (nI a')), some (.int (nI p')), some (.int (nI b')), some (.int (nI q')), some (.int wh), some (.int 1)]) (sk' := [.int (nI q'), .int (nI b'), .int (nI p'), .int (nI a'), .ref 13, .ref 44]) (st' := st) (fun _ h => h) ?_
              obtain ⟨t, y, s1, hc, hmt, hyo, e0, e1, e2, hf⟩ := c_hold_13 (d + 0) n c a' p' b' q' st hX hB h6 ha1 ha9 hp1 hp9 hb1 hb9 hq1 hq9
              refine w_callV (As := [.ref 44, .ref 13, .int (nI a'), .int (nI p'), .int (nI b'), .int (nI q')]) (rest := []) rfl rfl rfl (Nat.le_of_ble_eq_true rfl) (Nat.le_of_ble_eq_true rfl) (by first | exact Or.inl ⟨rfl, rfl⟩ | exact Or.inr ⟨rfl, rfl⟩) hc ?_
              refine w_blk 1 (pc' := 96) (ls' := [some (.ref 0), some (.int (nI a')), some (.int (nI p')), some (.int (nI b')), some (.int (nI q')), some (.int wh), some (.int 1)]) (sk' := [.int wh]) (st' := s1) (fun _ h => h) ?_
              by_cases hw0 : wh = 0
              · subst hw0
                refine w_lookup (o := 28) (t := 124) rfl (by decide) (by decide) rfl ?_
                refine w_blk 3 (pc' := 131) (ls' := [some (.ref 0), some (.int (nI a')), some (.int (nI p')), some (.int (nI b')), some (.int (nI q')), some (.int 0), some (.int 1)]) (sk' := [.int (s1.1 44 0)]) (st' := s1) (fun _ h => h) ?_
                rw [e0]
                exact w_iret rfl rfl rfl (hq _ s1 ⟨⟨fun hh => absurd hok hh, fun _ hh => absurd hh h6, fun _ _ => ⟨t, y, by rw [eca, ecp, ecb, ecq]; exact hmt, by rw [eca, ecp, ecb, ecq]; exact hyo, rfl⟩⟩, hf⟩)
              · by_cases hw1 : wh = 1
                · subst hw1
                  refine w_lookup (o := 36) (t := 132) rfl (by decide) (by decide) rfl ?_
                  refine w_blk 3 (pc' := 139) (ls' := [some (.ref 0), some (.int (nI a')), some (.int (nI p')), some (.int (nI b')), some (.int (nI q')), some (.int 1), some (.int 1)]) (sk' := [.int (s1.1 44 1)]) (st' := s1) (fun _ h => h) ?_
                  rw [e1]
                  exact w_iret rfl rfl rfl (hq _ s1 ⟨⟨fun hh => absurd hok hh, fun _ hh => absurd hh h6, fun _ _ => ⟨t, y, by rw [eca, ecp, ecb, ecq]; exact hmt, by rw [eca, ecp, ecb, ecq]; exact hyo, by rw [if_neg (by decide), if_pos rfl]⟩⟩, hf⟩)
                · refine w_lookup (o := 44) (t := 140) rfl (by decide) ((lv_osw hw0 rfl).trans ((lv_osw hw1 rfl).trans rfl)) rfl ?_
                  refine w_blk 3 (pc' := 147) (ls' := [some (.ref 0), some (.int (nI a')), some (.int (nI p')), some (.int (nI b')), some (.int (nI q')), some (.int wh), some (.int 1)]) (sk' := [.int (s1.1 44 2)]) (st' := s1) (fun _ h => h) ?_
                  rw [e2]
                  exact w_iret rfl rfl rfl (hq _ s1 ⟨⟨fun hh => absurd hok hh, fun _ hh => absurd hh h6, fun _ _ => ⟨t, y, by rw [eca, ecp, ecb, ecq]; exact hmt, by rw [eca, ecp, ecb, ecq]; exact hyo, by rw [if_neg hw0, if_neg hw1, eca, ecp, ecb, ecq]⟩⟩, hf⟩)
            · replace h6 : n 2 = 0 := (nI_eq (a := (n 2)) (b := 0) (by omega) (by omega)).mp (Decidable.not_not.mp h6)
              refine w_blk 1 (pc' := 77) (ls' := [some (.ref 0), some (.int (nI a')), some (.int (nI p')), some (.int (nI b')), some (.int (nI q')), some (.int wh), some (.int 1)]) (sk' := [.int (-9)]) (st' := st) (fun _ h => h) ?_
              exact w_iret rfl rfl rfl (hq _ st ⟨⟨fun hh => absurd hok hh, fun _ _ => rfl, fun _ hh => absurd h6 hh⟩, Fr.rf⟩)
          · replace h5 := pI_eq0.mp (Decidable.not_not.mp h5)
            refine w_blk 1 (pc' := 64) (ls' := [some (.ref 0), some (.int a), some (.int p), some (.int b), some (.int q), some (.int wh), some (.int 1)]) (sk' := [.int (-1)]) (st' := st) (fun _ h => h) ?_
            have hno : ¬ okM a p b q wh := fun hh => by first | exact h1 hh.1 | exact h2 hh.2.1 | exact h3 hh.2.2.1 | exact h4 hh.2.2.2.1 | exact h5 hh.2.2.2.2
            exact w_iret rfl rfl rfl (hq _ st ⟨⟨fun _ => rfl, fun hh => absurd hh hno, fun hh => absurd hh hno⟩, Fr.rf⟩)
