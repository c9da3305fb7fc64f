/-! LONGEST, BEGINS of the class -/
set_option maxRecDepth 20000 in
/-- longest() -/
theorem x_longest_5 (d : Nat) (n : Nat → Nat) (c : Nat → Nat → Nat) (v : Nat → Int32) (u : Nat → Nat) (yd : Nat) (st : mSt) (hcw : st.1 0 1 = nI 5) (hX : X5 st n c) (hB : CB n c) (hN : N21 st v u yd) (hU : ∀ j, 3 ≤ j → j < 12 → u j < 256) (hI : IFol st) : ∃ (R : Nat) (s : mSt), mMC mT (d + 18) 97 [.ref 0] st (some (.int (nI R))) s ∧ LGR (fun q => hallB (EN n c u) q (n 0)) (n 0) R ∧ IFol s ∧ Fr [31, 32, 33] st s := by
  suffices H : ∀ Q : Option Value → mSt → Prop, (∀ (R : Nat) (s : mSt), (LGR (fun q => hallB (EN n c u) q (n 0)) (n 0) R ∧ IFol s ∧ Fr [31, 32, 33] st s) → Q (some (.int (nI R))) s) → mW (mMC mT (d + 17)) (0, fun _ => 0) (mAtL P_X9_longest) (some .int) Q 0 [some (.ref 0)] [] st by
    obtain ⟨_, _, ⟨R, s, rfl, rfl, hp⟩, hw⟩ := mW_ex (H (fun vv tt => ∃ (R : Nat) (s : mSt),  vv = some (.int (nI R)) ∧ s = tt ∧ LGR (fun q => hallB (EN n c u) q (n 0)) (n 0) R ∧ IFol s ∧ Fr [31, 32, 33] st s) (fun R s hp => ⟨R, s, rfl, rfl, hp⟩))
    exact ⟨R, s, mI_X9_longest (d := d + 17) (Nat.le_of_ble_eq_true rfl) hw, hp⟩
  intro Q hq
  have hcr : (st.1 0 1).toNatClampNeg = 5 := by rw [hcw]; rfl
  obtain ⟨R, s1, hc, hlg, hr, -, hI1, hf⟩ := c_work_5 (d + 0) n c v u yd st hX hB hN hU hI
  refine w_blk 3 (pc' := 5) (ls' := [some (.ref 0)]) (sk' := [.ref 0, .ref 31]) (st' := st) (fun _ h => h) ?_
  refine w_blk 1 (pc' := 8) (ls' := [some (.ref 0)]) (sk' := [.ref (Int32.toNatClampNeg (st.1 0 1)), .ref 31]) (st' := st) (fun _ h => h) ?_
  rw [show Int32.toNatClampNeg (st.1 0 1) = 5 from hcr]
  refine w_blk 2 (pc' := 12) (ls' := [some (.ref 0)]) (sk' := [.ref 21, .ref 5, .ref 31]) (st' := st) (fun _ h => h) ?_
  refine w_callV (As := [.ref 31, .ref 5, .ref 21]) (rest := []) rfl rfl rfl (Nat.le_of_ble_eq_true rfl) (Nat.le_of_ble_eq_true rfl) (by first | exact Or.inl ⟨rfl, rfl⟩ | exact Or.inr ⟨rfl, rfl⟩) hc ?_
  refine w_blk 3 (pc' := 22) (ls' := [some (.ref 0)]) (sk' := [.int (s1.1 31 0)]) (st' := s1) (fun _ h => h) ?_
  rw [hr]
  exact w_iret rfl rfl rfl (hq R s1 ⟨hlg, hI1, hf⟩)
set_option maxRecDepth 20000 in
/-- longest() -/
theorem x_longest_13 (d : Nat) (n : Nat → Nat) (c : Nat → Nat → Nat) (v : Nat → Int32) (u : Nat → Nat) (yd : Nat) (st : mSt) (hcw : st.1 0 1 = nI 13) (hX : X13 st n c) (hB : CB n c) (hN : N21 st v u yd) (hU : ∀ j, 3 ≤ j → j < 12 → u j < 256) (hI : IFol st) : ∃ (R : Nat) (s : mSt), mMC mT (d + 18) 97 [.ref 0] st (some (.int (nI R))) s ∧ LGR (fun q => hallB (EN n c u) q (n 0)) (n 0) R ∧ IFol s ∧ Fr [31, 32, 33] st s := by
  suffices H : ∀ Q : Option Value → mSt → Prop, (∀ (R : Nat) (s : mSt), (LGR (fun q => hallB (EN n c u) q (n 0)) (n 0) R ∧ IFol s ∧ Fr [31, 32, 33] st s) → Q (some (.int (nI R))) s) → mW (mMC mT (d + 17)) (0, fun _ => 0) (mAtL P_X9_longest) (some .int) Q 0 [some (.ref 0)] [] st by
    obtain ⟨_, _, ⟨R, s, rfl, rfl, hp⟩, hw⟩ := mW_ex (H (fun vv tt => ∃ (R : Nat) (s : mSt),  vv = some (.int (nI R)) ∧ s = tt ∧ LGR (fun q => hallB (EN n c u) q (n 0)) (n 0) R ∧ IFol s ∧ Fr [31, 32, 33] st s) (fun R s hp => ⟨R, s, rfl, rfl, hp⟩))
    exact ⟨R, s, mI_X9_longest (d := d + 17) (Nat.le_of_ble_eq_true rfl) hw, hp⟩
  intro Q hq
  have hcr : (st.1 0 1).toNatClampNeg = 13 := by rw [hcw]; rfl
  obtain ⟨R, s1, hc, hlg, hr, -, hI1, hf⟩ := c_work_13 (d + 0) n c v u yd st hX hB hN hU hI
  refine w_blk 3 (pc' := 5) (ls' := [some (.ref 0)]) (sk' := [.ref 0, .ref 31]) (st' := st) (fun _ h => h) ?_
  refine w_blk 1 (pc' := 8) (ls' := [some (.ref 0)]) (sk' := [.ref (Int32.toNatClampNeg (st.1 0 1)), .ref 31]) (st' := st) (fun _ h => h) ?_
  rw [show Int32.toNatClampNeg (st.1 0 1) = 13 from hcr]
  refine w_blk 2 (pc' := 12) (ls' := [some (.ref 0)]) (sk' := [.ref 21, .ref 13, .ref 31]) (st' := st) (fun _ h => h) ?_
  refine w_callV (As := [.ref 31, .ref 13, .ref 21]) (rest := []) rfl rfl rfl (Nat.le_of_ble_eq_true rfl) (Nat.le_of_ble_eq_true rfl) (by first | exact Or.inl ⟨rfl, rfl⟩ | exact Or.inr ⟨rfl, rfl⟩) hc ?_
  refine w_blk 3 (pc' := 22) (ls' := [some (.ref 0)]) (sk' := [.int (s1.1 31 0)]) (st' := s1) (fun _ h => h) ?_
  rw [hr]
  exact w_iret rfl rfl rfl (hq R s1 ⟨hlg, hI1, hf⟩)
set_option maxRecDepth 20000 in
/-- begins(d) -/
theorem x_begins_5 (d : Nat) (n : Nat → Nat) (c : Nat → Nat → Nat) (v : Nat → Int32) (u : Nat → Nat) (yd : Nat) (x : Int32) (st : mSt) (hcw : st.1 0 1 = nI 5) (hX : X5 st n c) (hB : CB n c) (hN : N21 st v u yd) (hU : ∀ j, 3 ≤ j → j < 12 → u j < 256) (hI : IFol st) : ∃ (r : Int32) (s : mSt), mMC mT (d + 18) 98 [.ref 0, .int x] st (some (.int r)) s ∧ BGs n (EN n c u) x r ∧ IFol s ∧ Fr [31, 32, 33] st s := by
  suffices H : ∀ Q : Option Value → mSt → Prop, (∀ (r : Int32) (s : mSt), (BGs n (EN n c u) x r ∧ IFol s ∧ Fr [31, 32, 33] st s) → Q (some (.int r)) s) → mW (mMC mT (d + 17)) (0, fun _ => 0) (mAtL P_X9_begins) (some .int) Q 0 [some (.ref 0), some (.int x)] [] st by
    obtain ⟨_, _, ⟨r, s, rfl, rfl, hp⟩, hw⟩ := mW_ex (H (fun vv tt => ∃ (r : Int32) (s : mSt),  vv = some (.int r) ∧ s = tt ∧ BGs n (EN n c u) x r ∧ IFol s ∧ Fr [31, 32, 33] st s) (fun r s hp => ⟨r, s, rfl, rfl, hp⟩))
    exact ⟨r, s, mI_X9_begins (d := d + 17) (Nat.le_of_ble_eq_true rfl) hw, hp⟩
  intro Q hq
  obtain ⟨hb0, hb1, hb2, hbd, hbs, hby⟩ := id hB
  have hcr : (st.1 0 1).toNatClampNeg = 5 := by rw [hcw]; rfl
  obtain ⟨R, s1, hc, hlg, hr, hrow, hI1, hf⟩ := c_work_5 (d + 0) n c v u yd st hX hB hN hU hI
  have hR8 := hlg.1
  refine w_blk 1 (pc' := 1) (ls' := [some (.ref 0), some (.int x)]) (sk' := [.ref 0]) (st' := st) (fun _ h => h) ?_
  refine w_blk 1 (pc' := 4) (ls' := [some (.ref 0), some (.int x)]) (sk' := [.ref (Int32.toNatClampNeg (st.1 0 1))]) (st' := st) (fun _ h => h) ?_
  rw [show Int32.toNatClampNeg (st.1 0 1) = 5 from hcr]
  refine w_blk 1 (pc' := 5) (ls' := [some (.ref 0), some (.int x)]) (sk' := [.int x, .ref 5]) (st' := st) (fun _ h => h) ?_
  refine w_callV (As := [.ref 5, .int x]) (rest := []) rfl rfl rfl (Nat.le_of_ble_eq_true rfl) (Nat.le_of_ble_eq_true rfl) (by first | exact Or.inl ⟨rfl, rfl⟩ | exact Or.inr ⟨rfl, rfl⟩) (c_hasDigger_5 (d + 16) x st) ?_
  rw [hX.1]
  refine w_if_ne rfl (fun h1 => ?_) (fun h1 => ?_)
  · replace h1 := pI_ne.mp h1
    obtain ⟨dg, hdg, rfl⟩ := nI_in2 (by omega) h1
    have ec := nI_clamp (show dg < 2 ^ 31 by omega)
    refine w_blk 3 (pc' := 18) (ls' := [some (.ref 0), some (.int (nI dg))]) (sk' := [.ref 0, .ref 31]) (st' := st) (fun _ h => h) ?_
    refine w_blk 1 (pc' := 21) (ls' := [some (.ref 0), some (.int (nI dg))]) (sk' := [.ref (Int32.toNatClampNeg (st.1 0 1)), .ref 31]) (st' := st) (fun _ h => h) ?_
    rw [show Int32.toNatClampNeg (st.1 0 1) = 5 from hcr]
    refine w_blk 2 (pc' := 25) (ls' := [some (.ref 0), some (.int (nI dg))]) (sk' := [.ref 21, .ref 5, .ref 31]) (st' := st) (fun _ h => h) ?_
    refine w_callV (As := [.ref 31, .ref 5, .ref 21]) (rest := []) rfl rfl rfl (Nat.le_of_ble_eq_true rfl) (Nat.le_of_ble_eq_true rfl) (by first | exact Or.inl ⟨rfl, rfl⟩ | exact Or.inr ⟨rfl, rfl⟩) hc ?_
    refine w_blk 3 (pc' := 35) (ls' := [some (.ref 0), some (.int (nI dg))]) (sk' := [.int (s1.1 31 0)]) (st' := s1) (fun _ h => h) ?_
    rw [hr]
    refine w_if_ne rfl (fun h2 => ?_) (fun h2 => ?_)
    · replace h2 : ¬ (R = 0) := fun hh => h2 ((nI_eq (a := R) (b := 0) (by omega) (by omega)).mpr hh)
      obtain ⟨ρ, hF, hρ⟩ := hrow h2
      refine w_blk 4 (pc' := 51) (ls' := [some (.ref 0), some (.int (nI dg))]) (sk' := [.int (nI dg), .ref 32]) (st' := s1) (fun _ h => h) ?_
      refine w_callS (As := [.ref 32, .int (nI dg)]) (rest := []) rfl rfl rfl (Nat.le_of_ble_eq_true rfl) (Nat.le_of_ble_eq_true rfl) (c_cellK (d + 16) 32 6 dg s1 (by omega) (by decide) rfl) ?_
      rw [hρ dg hdg]
      exact w_iret rfl rfl rfl (hq _ s1 ⟨⟨fun hh => absurd h1 hh, fun _ => ⟨R, hlg, fun hh => absurd hh h2, fun _ => ⟨ρ, hF, by rw [ec]⟩⟩⟩, hI1, hf⟩)
    · replace h2 : R = 0 := (nI_eq (a := R) (b := 0) (by omega) (by omega)).mp (Decidable.not_not.mp h2)
      refine w_blk 2 (pc' := 54) (ls' := [some (.ref 0), some (.int (nI dg))]) (sk' := [.int (-9)]) (st' := s1) (fun _ h => h) ?_
      exact w_iret rfl rfl rfl (hq _ s1 ⟨⟨fun hh => absurd h1 hh, fun _ => ⟨R, hlg, fun _ => rfl, fun hh => absurd h2 hh⟩⟩, hI1, hf⟩)
  · replace h1 := pI_eq0.mp (Decidable.not_not.mp h1)
    refine w_blk 1 (pc' := 12) (ls' := [some (.ref 0), some (.int x)]) (sk' := [.int (-1)]) (st' := st) (fun _ h => h) ?_
    exact w_iret rfl rfl rfl (hq _ st ⟨⟨fun _ => rfl, fun hh => absurd hh h1⟩, hI, Fr.rf⟩)
set_option maxRecDepth 20000 in
/-- begins(d) -/
theorem x_begins_13 (d : Nat) (n : Nat → Nat) (c : Nat → Nat → Nat) (v : Nat → Int32) (u : Nat → Nat) (yd : Nat) (x : Int32) (st : mSt) (hcw : st.1 0 1 = nI 13) (hX : X13 st n c) (hB : CB n c) (hN : N21 st v u yd) (hU : ∀ j, 3 ≤ j → j < 12 → u j < 256) (hI : IFol st) : ∃ (r : Int32) (s : mSt), mMC mT (d + 18) 98 [.ref 0, .int x] st (some (.int r)) s ∧ BGs n (EN n c u) x r ∧ IFol s ∧ Fr [31, 32, 33] st s := by
  suffices H : ∀ Q : Option Value → mSt → Prop, (∀ (r : Int32) (s : mSt), (BGs n (EN n c u) x r ∧ IFol s ∧ Fr [31, 32, 33] st s) → Q (some (.int r)) s) → mW (mMC mT (d + 17)) (0, fun _ => 0) (mAtL P_X9_begins) (some .int) Q 0 [some (.ref 0), some (.int x)] [] st by
    obtain ⟨_, _, ⟨r, s, rfl, rfl, hp⟩, hw⟩ := mW_ex (H (fun vv tt => ∃ (r : Int32) (s : mSt),  vv = some (.int r) ∧ s = tt ∧ BGs n (EN n c u) x r ∧ IFol s ∧ Fr [31, 32, 33] st s) (fun r s hp => ⟨r, s, rfl, rfl, hp⟩))
    exact ⟨r, s, mI_X9_begins (d := d + 17) (Nat.le_of_ble_eq_true rfl) hw, hp⟩
  intro Q hq
  obtain ⟨hb0, hb1, hb2, hbd, hbs, hby⟩ := id hB
  have hcr : (st.1 0 1).toNatClampNeg = 13 := by rw [hcw]; rfl
  obtain ⟨R, s1, hc, hlg, hr, hrow, hI1, hf⟩ := c_work_13 (d + 0) n c v u yd st hX hB hN hU hI
  have hR8 := hlg.1
  refine w_blk 1 (pc' := 1) (ls' := [some (.ref 0), some (.int x)]) (sk' := [.ref 0]) (st' := st) (fun _ h => h) ?_
  refine w_blk 1 (pc' := 4) (ls' := [some (.ref 0), some (.int x)]) (sk' := [.ref (Int32.toNatClampNeg (st.1 0 1))]) (st' := st) (fun _ h => h) ?_
  rw [show Int32.toNatClampNeg (st.1 0 1) = 13 from hcr]
  refine w_blk 1 (pc' := 5) (ls' := [some (.ref 0), some (.int x)]) (sk' := [.int x, .ref 13]) (st' := st) (fun _ h => h) ?_
  refine w_callV (As := [.ref 13, .int x]) (rest := []) rfl rfl rfl (Nat.le_of_ble_eq_true rfl) (Nat.le_of_ble_eq_true rfl) (by first | exact Or.inl ⟨rfl, rfl⟩ | exact Or.inr ⟨rfl, rfl⟩) (c_hasDigger_13 (d + 16) x st) ?_
  rw [hX.1]
  refine w_if_ne rfl (fun h1 => ?_) (fun h1 => ?_)
  · replace h1 := pI_ne.mp h1
    obtain ⟨dg, hdg, rfl⟩ := nI_in2 (by omega) h1
    have ec := nI_clamp (show dg < 2 ^ 31 by omega)
    refine w_blk 3 (pc' := 18) (ls' := [some (.ref 0), some (.int (nI dg))]) (sk' := [.ref 0, .ref 31]) (st' := st) (fun _ h => h) ?_
    refine w_blk 1 (pc' := 21) (ls' := [some (.ref 0), some (.int (nI dg))]) (sk' := [.ref (Int32.toNatClampNeg (st.1 0 1)), .ref 31]) (st' := st) (fun _ h => h) ?_
    rw [show Int32.toNatClampNeg (st.1 0 1) = 13 from hcr]
    refine w_blk 2 (pc' := 25) (ls' := [some (.ref 0), some (.int (nI dg))]) (sk' := [.ref 21, .ref 13, .ref 31]) (st' := st) (fun _ h => h) ?_
    refine w_callV (As := [.ref 31, .ref 13, .ref 21]) (rest := []) rfl rfl rfl (Nat.le_of_ble_eq_true rfl) (Nat.le_of_ble_eq_true rfl) (by first | exact Or.inl ⟨rfl, rfl⟩ | exact Or.inr ⟨rfl, rfl⟩) hc ?_
    refine w_blk 3 (pc' := 35) (ls' := [some (.ref 0), some (.int (nI dg))]) (sk' := [.int (s1.1 31 0)]) (st' := s1) (fun _ h => h) ?_
    rw [hr]
    refine w_if_ne rfl (fun h2 => ?_) (fun h2 => ?_)
    · replace h2 : ¬ (R = 0) := fun hh => h2 ((nI_eq (a := R) (b := 0) (by omega) (by omega)).mpr hh)
      obtain ⟨ρ, hF, hρ⟩ := hrow h2
      refine w_blk 4 (pc' := 51) (ls' := [some (.ref 0), some (.int (nI dg))]) (sk' := [.int (nI dg), .ref 32]) (st' := s1) (fun _ h => h) ?_
      refine w_callS (As := [.ref 32, .int (nI dg)]) (rest := []) rfl rfl rfl (Nat.le_of_ble_eq_true rfl) (Nat.le_of_ble_eq_true rfl) (c_cellK (d + 16) 32 6 dg s1 (by omega) (by decide) rfl) ?_
      rw [hρ dg hdg]
      exact w_iret rfl rfl rfl (hq _ s1 ⟨⟨fun hh => absurd h1 hh, fun _ => ⟨R, hlg, fun hh => absurd hh h2, fun _ => ⟨ρ, hF, by rw [ec]⟩⟩⟩, hI1, hf⟩)
    · replace h2 : R = 0 := (nI_eq (a := R) (b := 0) (by omega) (by omega)).mp (Decidable.not_not.mp h2)
      refine w_blk 2 (pc' := 54) (ls' := [some (.ref 0), some (.int (nI dg))]) (sk' := [.int (-9)]) (st' := s1) (fun _ h => h) ?_
      exact w_iret rfl rfl rfl (hq _ s1 ⟨⟨fun hh => absurd h1 hh, fun _ => ⟨R, hlg, fun _ => rfl, fun hh => absurd h2 hh⟩⟩, hI1, hf⟩)
  · replace h1 := pI_eq0.mp (Decidable.not_not.mp h1)
    refine w_blk 1 (pc' := 12) (ls' := [some (.ref 0), some (.int x)]) (sk' := [.int (-1)]) (st' := st) (fun _ h => h) ?_
    exact w_iret rfl rfl rfl (hq _ st ⟨⟨fun _ => rfl, fun hh => absurd hh h1⟩, hI, Fr.rf⟩)
