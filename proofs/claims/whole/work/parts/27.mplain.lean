/-! PLAIN CALLS of the model -/
theorem nar_pI (p : Prop) [Decidable p] : narrow .boolean (.int (pI p)) = .int (pI p) := by
  rcases pI_01 p with h | h <;> rw [h] <;> rfl
set_option maxRecDepth 20000 in
theorem m_isDigger (d : Nat) (n : Nat → Nat) (c : Nat → Nat → Nat) (x : Int32) (st : mSt) (hR : MR st n c) (hB : CB n c) : mMC mT (d + 2) 141 [.ref 53, .int x] st (some (.int (pI (0 ≤ x ∧ x < nI (n 0))))) st := by
  refine mI_X10_isDigger (d := d + 1) (Nat.le_of_ble_eq_true rfl) (fun Q hq => ?_)
  show mW (mMC mT (d + 1)) (0, fun _ => 0) (mAtL P_X10_isDigger) (some .boolean) Q 0 [some (.ref 53), some (.int x)] [] st
  obtain ⟨hb0, hb1, hb2, hbd, hbs, hby⟩ := id hB
  refine w_blk 5 (pc' := 7) (ls' := [some (.ref 53), some (.int x)]) (sk' := [.int 0, .ref 55, .int 0, .int x]) (st' := st) (fun _ h => h) ?_
  refine w_iald rfl rfl (vp_in_nI (n := 0) (N := 2) (by decide) (by decide)) ?_
  rw [show Int32.toNatClampNeg (0 : Int32) = 0 from rfl]
  rw [hR.1]
  refine w_blk 2 (pc' := 10) (ls' := [some (.ref 53), some (.int x)]) (sk' := [.int ((nI (n 0)) - 1), .int 0, .int x]) (st' := st) (fun _ h => h) ?_
  refine w_callS (As := [.int x, .int 0, .int ((nI (n 0)) - 1)]) (rest := []) rfl rfl rfl (Nat.le_of_ble_eq_true rfl) (Nat.le_of_ble_eq_true rfl) (m_in (d + 0) x 0 ((nI (n 0)) - 1) st) ?_
  rw [show (pI (0 ≤ x ∧ x ≤ ((nI (n 0)) - 1))) = pI (0 ≤ x ∧ x < nI (n 0)) from pI_cong (ok_le (by omega))]
  exact w_iret rfl rfl (nar_pI _) hq
set_option maxRecDepth 20000 in
theorem m_isSpade (d : Nat) (n : Nat → Nat) (c : Nat → Nat → Nat) (x : Int32) (st : mSt) (hR : MR st n c) (hB : CB n c) : mMC mT (d + 2) 142 [.ref 53, .int x] st (some (.int (pI (0 ≤ x ∧ x < nI (n 1))))) st := by
  refine mI_X10_isSpade (d := d + 1) (Nat.le_of_ble_eq_true rfl) (fun Q hq => ?_)
  show mW (mMC mT (d + 1)) (0, fun _ => 0) (mAtL P_X10_isSpade) (some .boolean) Q 0 [some (.ref 53), some (.int x)] [] st
  obtain ⟨hb0, hb1, hb2, hbd, hbs, hby⟩ := id hB
  refine w_blk 5 (pc' := 7) (ls' := [some (.ref 53), some (.int x)]) (sk' := [.int 0, .ref 59, .int 0, .int x]) (st' := st) (fun _ h => h) ?_
  refine w_iald rfl rfl (vp_in_nI (n := 0) (N := 2) (by decide) (by decide)) ?_
  rw [show Int32.toNatClampNeg (0 : Int32) = 0 from rfl]
  rw [hR.2.1]
  refine w_blk 2 (pc' := 10) (ls' := [some (.ref 53), some (.int x)]) (sk' := [.int ((nI (n 1)) - 1), .int 0, .int x]) (st' := st) (fun _ h => h) ?_
  refine w_callS (As := [.int x, .int 0, .int ((nI (n 1)) - 1)]) (rest := []) rfl rfl rfl (Nat.le_of_ble_eq_true rfl) (Nat.le_of_ble_eq_true rfl) (m_in (d + 0) x 0 ((nI (n 1)) - 1) st) ?_
  rw [show (pI (0 ≤ x ∧ x ≤ ((nI (n 1)) - 1))) = pI (0 ≤ x ∧ x < nI (n 1)) from pI_cong (ok_le (by omega))]
  exact w_iret rfl rfl (nar_pI _) hq
set_option maxRecDepth 20000 in
/-- digger -/
theorem m_digger (d : Nat) (n : Nat → Nat) (c : Nat → Nat → Nat) (v : Nat → Int32) (u : Nat → Nat) (x w : Int32) (st : mSt) (hR : MR st n c) (hM : NM0 st v u) (hB : CB n c) : mMC mT (d + 3) 144 [.ref 53, .int x, .int w] st (some (.int (sp_digger n c u x w))) st := by
  refine mI_X10_digger (d := d + 2) (Nat.le_of_ble_eq_true rfl) (fun Q hq => ?_)
  show mW (mMC mT (d + 2)) (0, fun _ => 0) (mAtL P_X10_digger) (some .int) Q 0 [some (.ref 53), some (.int x), some (.int w)] [] st
  obtain ⟨hb0, hb1, hb2, hbd, hbs, hby⟩ := id hB
  refine w_blk 2 (pc' := 2) (ls' := [some (.ref 53), some (.int x), some (.int w)]) (sk' := [.int x, .ref 53]) (st' := st) (fun _ h => h) ?_
  refine w_callV (As := [.ref 53, .int x]) (rest := []) rfl rfl rfl (Nat.le_of_ble_eq_true rfl) (Nat.le_of_ble_eq_true rfl) (by first | exact Or.inl ⟨rfl, rfl⟩ | exact Or.inr ⟨rfl, rfl⟩) (m_isDigger (d + 0) n c x st hR hB) ?_
  refine w_if_eq rfl (fun h1 => ?_) (fun h1 => ?_)
  · replace h1 := pI_eq0.mp h1
    refine w_blk 1 (pc' := 18) (ls' := [some (.ref 53), some (.int x), some (.int w)]) (sk' := [.int (-1)]) (st' := st) (fun _ h => h) ?_
    rw [show sp_digger n c u x w = (-1) from if_neg h1] at hq
    exact w_iret rfl rfl rfl hq
  · replace h1 := pI_ne.mp h1
    obtain ⟨k, hk, rfl⟩ := nI_in2 (by omega) h1
    have ec := nI_clamp (show k < 2 ^ 31 by omega)
    have hok : ok0 n (nI k) := nI_in3 (by omega) hk
    refine w_blk 3 (pc' := 11) (ls' := [some (.ref 53), some (.int (nI k)), some (.int w)]) (sk' := [.int 3, .int 0, .int w]) (st' := st) (fun _ h => h) ?_
    refine w_callS (As := [.int w, .int 0, .int 3]) (rest := []) rfl rfl rfl (Nat.le_of_ble_eq_true rfl) (Nat.le_of_ble_eq_true rfl) (m_in (d + 1) w 0 3 st) ?_
    refine w_if_ne rfl (fun h2 => ?_) (fun h2 => ?_)
    · replace h2 := pI_ne.mp h2
      obtain ⟨q, -, hq3, rfl⟩ := nI_within (a := 0) (b := 3) h2 (by decide) (by decide)
      refine w_blk 1 (pc' := 20) (ls' := [some (.ref 53), some (.int (nI k)), some (.int (nI q))]) (sk' := [.int (nI q)]) (st' := st) (fun _ h => h) ?_
      refine w_if_ne rfl (fun h3 => ?_) (fun h3 => ?_)
      · replace h3 : ¬ (q = 0) := fun hh => h3 ((nI_eq (a := q) (b := 0) (by omega) (by omega)).mpr hh)
        refine w_blk 2 (pc' := 34) (ls' := [some (.ref 53), some (.int (nI k)), some (.int (nI q))]) (sk' := [.int 1, .int (nI q)]) (st' := st) (fun _ h => h) ?_
        refine w_cmp_ne rfl (fun h4 => ?_) (fun h4 => ?_)
        · replace h4 : ¬ (q = 1) := fun hh => h4 ((nI_eq (a := q) (b := 1) (by omega) (by omega)).mpr hh)
          refine w_blk 2 (pc' := 48) (ls' := [some (.ref 53), some (.int (nI k)), some (.int (nI q))]) (sk' := [.int 2, .int (nI q)]) (st' := st) (fun _ h => h) ?_
          refine w_cmp_ne rfl (fun h5 => ?_) (fun h5 => ?_)
          · replace h5 : ¬ (q = 2) := fun hh => h5 ((nI_eq (a := q) (b := 2) (by omega) (by omega)).mpr hh)
            refine w_blk 5 (pc' := 68) (ls' := [some (.ref 53), some (.int (nI k)), some (.int (nI q))]) (sk' := [.int (6 + (nI k)), .ref 65]) (st' := st) (fun _ h => h) ?_
            rw [show (6 + (nI k)) = nI (6 + k) from nI_add 6 k]
            refine w_iald rfl rfl (vp_in_nI (n := (6 + k)) (N := 60) (by omega) (by decide)) ?_
            rw [nI_clamp (show (6 + k) < 2 ^ 31 by omega)]
            rw [hM.2 (6 + k) (by omega) (by omega)]
            obtain rfl : q = 3 := by omega
            rw [show sp_digger n c u (nI k) (nI 3) = (nI (u (6 + k))) from by unfold sp_digger; rw [if_pos hok, if_neg (by decide), if_neg (by decide), if_neg (by decide), if_pos (show nI 3 = 3 from rfl), ec]] at hq
            exact w_iret rfl rfl rfl hq
          · replace h5 : q = 2 := (nI_eq (a := q) (b := 2) (by omega) (by omega)).mp (Decidable.not_not.mp h5)
            refine w_blk 3 (pc' := 56) (ls' := [some (.ref 53), some (.int (nI k)), some (.int (nI q))]) (sk' := [.int (nI k), .ref 58]) (st' := st) (fun _ h => h) ?_
            refine w_iald rfl rfl (vp_in_nI (n := k) (N := 12) (by omega) (by decide)) ?_
            rw [nI_clamp (show k < 2 ^ 31 by omega)]
            rw [(hR.2.2.2.1 k (by omega)).2.2]
            refine w_blk 1 (pc' := 69) (ls' := [some (.ref 53), some (.int (nI k)), some (.int (nI q))]) (sk' := [.int (nI (c 2 k))]) (st' := st) (fun _ h => h) ?_
            obtain rfl : q = 2 := by omega
            rw [show sp_digger n c u (nI k) (nI 2) = (nI (c 2 k)) from by unfold sp_digger; rw [if_pos hok, if_neg (by decide), if_neg (by decide), if_pos (show nI 2 = 2 from rfl), ec]] at hq
            exact w_iret rfl rfl rfl hq
        · replace h4 : q = 1 := (nI_eq (a := q) (b := 1) (by omega) (by omega)).mp (Decidable.not_not.mp h4)
          refine w_blk 3 (pc' := 42) (ls' := [some (.ref 53), some (.int (nI k)), some (.int (nI q))]) (sk' := [.int (nI k), .ref 57]) (st' := st) (fun _ h => h) ?_
          refine w_iald rfl rfl (vp_in_nI (n := k) (N := 12) (by omega) (by decide)) ?_
          rw [nI_clamp (show k < 2 ^ 31 by omega)]
          rw [(hR.2.2.2.1 k (by omega)).2.1]
          refine w_blk 1 (pc' := 69) (ls' := [some (.ref 53), some (.int (nI k)), some (.int (nI q))]) (sk' := [.int (nI (c 1 k))]) (st' := st) (fun _ h => h) ?_
          obtain rfl : q = 1 := by omega
          rw [show sp_digger n c u (nI k) (nI 1) = (nI (c 1 k)) from by unfold sp_digger; rw [if_pos hok, if_neg (by decide), if_pos (show nI 1 = 1 from rfl), ec]] at hq
          exact w_iret rfl rfl rfl hq
      · replace h3 : q = 0 := (nI_eq (a := q) (b := 0) (by omega) (by omega)).mp (Decidable.not_not.mp h3)
        refine w_blk 3 (pc' := 28) (ls' := [some (.ref 53), some (.int (nI k)), some (.int (nI q))]) (sk' := [.int (nI k), .ref 56]) (st' := st) (fun _ h => h) ?_
        refine w_iald rfl rfl (vp_in_nI (n := k) (N := 12) (by omega) (by decide)) ?_
        rw [nI_clamp (show k < 2 ^ 31 by omega)]
        rw [(hR.2.2.2.1 k (by omega)).1]
        refine w_blk 1 (pc' := 69) (ls' := [some (.ref 53), some (.int (nI k)), some (.int (nI q))]) (sk' := [.int (nI (c 0 k))]) (st' := st) (fun _ h => h) ?_
        obtain rfl : q = 0 := by omega
        rw [show sp_digger n c u (nI k) (nI 0) = (nI (c 0 k)) from by unfold sp_digger; rw [if_pos hok, if_pos (show nI 0 = 0 from rfl), ec]] at hq
        exact w_iret rfl rfl rfl hq
    · replace h2 := pI_eq0.mp (Decidable.not_not.mp h2)
      refine w_blk 1 (pc' := 18) (ls' := [some (.ref 53), some (.int (nI k)), some (.int w)]) (sk' := [.int (-1)]) (st' := st) (fun _ h => h) ?_
      rw [show sp_digger n c u (nI k) w = (-1) from by unfold sp_digger; rw [if_pos hok, if_neg (fun e => h2 (by rw [e]; decide)), if_neg (fun e => h2 (by rw [e]; decide)), if_neg (fun e => h2 (by rw [e]; decide)), if_neg (fun e => h2 (by rw [e]; decide))]] at hq
      exact w_iret rfl rfl rfl hq
set_option maxRecDepth 20000 in
/-- spade -/
theorem m_spade (d : Nat) (n : Nat → Nat) (c : Nat → Nat → Nat) (v : Nat → Int32) (u : Nat → Nat) (x w : Int32) (st : mSt) (hR : MR st n c) (hM : NM0 st v u) (hB : CB n c) (hU : ∀ j, 3 ≤ j → j < 12 → u j < 256) : mMC mT (d + 3) 145 [.ref 53, .int x, .int w] st (some (.int (sp_spade n c u x w))) st := by
  refine mI_X10_spade (d := d + 2) (Nat.le_of_ble_eq_true rfl) (fun Q hq => ?_)
  show mW (mMC mT (d + 2)) (0, fun _ => 0) (mAtL P_X10_spade) (some .int) Q 0 [some (.ref 53), some (.int x), some (.int w)] [] st
  obtain ⟨hb0, hb1, hb2, hbd, hbs, hby⟩ := id hB
  refine w_blk 2 (pc' := 2) (ls' := [some (.ref 53), some (.int x), some (.int w)]) (sk' := [.int x, .ref 53]) (st' := st) (fun _ h => h) ?_
  refine w_callV (As := [.ref 53, .int x]) (rest := []) rfl rfl rfl (Nat.le_of_ble_eq_true rfl) (Nat.le_of_ble_eq_true rfl) (by first | exact Or.inl ⟨rfl, rfl⟩ | exact Or.inr ⟨rfl, rfl⟩) (m_isSpade (d + 0) n c x st hR hB) ?_
  refine w_if_eq rfl (fun h1 => ?_) (fun h1 => ?_)
  · replace h1 := pI_eq0.mp h1
    refine w_blk 1 (pc' := 18) (ls' := [some (.ref 53), some (.int x), some (.int w)]) (sk' := [.int (-1)]) (st' := st) (fun _ h => h) ?_
    rw [show sp_spade n c u x w = (-1) from if_neg h1] at hq
    exact w_iret rfl rfl rfl hq
  · replace h1 := pI_ne.mp h1
    obtain ⟨k, hk, rfl⟩ := nI_in2 (by omega) h1
    have ec := nI_clamp (show k < 2 ^ 31 by omega)
    have hok : ok1 n (nI k) := nI_in3 (by omega) hk
    refine w_blk 3 (pc' := 11) (ls' := [some (.ref 53), some (.int (nI k)), some (.int w)]) (sk' := [.int 2, .int 0, .int w]) (st' := st) (fun _ h => h) ?_
    refine w_callS (As := [.int w, .int 0, .int 2]) (rest := []) rfl rfl rfl (Nat.le_of_ble_eq_true rfl) (Nat.le_of_ble_eq_true rfl) (m_in (d + 1) w 0 2 st) ?_
    refine w_if_ne rfl (fun h2 => ?_) (fun h2 => ?_)
    · replace h2 := pI_ne.mp h2
      obtain ⟨q, -, hq3, rfl⟩ := nI_within (a := 0) (b := 2) h2 (by decide) (by decide)
      refine w_blk 1 (pc' := 20) (ls' := [some (.ref 53), some (.int (nI k)), some (.int (nI q))]) (sk' := [.int (nI q)]) (st' := st) (fun _ h => h) ?_
      refine w_if_ne rfl (fun h3 => ?_) (fun h3 => ?_)
      · replace h3 : ¬ (q = 0) := fun hh => h3 ((nI_eq (a := q) (b := 0) (by omega) (by omega)).mpr hh)
        refine w_blk 2 (pc' := 34) (ls' := [some (.ref 53), some (.int (nI k)), some (.int (nI q))]) (sk' := [.int 1, .int (nI q)]) (st' := st) (fun _ h => h) ?_
        refine w_cmp_ne rfl (fun h4 => ?_) (fun h4 => ?_)
        · replace h4 : ¬ (q = 1) := fun hh => h4 ((nI_eq (a := q) (b := 1) (by omega) (by omega)).mpr hh)
          refine w_blk 3 (pc' := 51) (ls' := [some (.ref 53), some (.int (nI k)), some (.int (nI q))]) (sk' := [.int 5, .ref 65]) (st' := st) (fun _ h => h) ?_
          refine w_iald rfl rfl (vp_in_nI (n := 5) (N := 60) (by decide) (by decide)) ?_
          rw [show Int32.toNatClampNeg (5 : Int32) = 5 from rfl]
          rw [hM.2 5 (by omega) (by omega)]
          refine w_blk 4 (pc' := 56) (ls' := [some (.ref 53), some (.int (nI k)), some (.int (nI q))]) (sk' := [.int (((nI (u 5)) >>> ((nI k) &&& 31)) &&& 1)]) (st' := st) (fun _ h => h) ?_
          rw [show (((nI (u 5)) >>> ((nI k) &&& 31)) &&& 1) = pI (Nat.testBit (u 5) k = true) from nI_bit (by omega) (by have := hU 5 (by omega) (by omega); omega)]
          obtain rfl : q = 2 := by omega
          rw [show sp_spade n c u (nI k) (nI 2) = (pI (Nat.testBit (u 5) k = true)) from by unfold sp_spade; rw [if_pos hok, if_neg (by decide), if_neg (by decide), if_pos (show nI 2 = 2 from rfl), ec]] at hq
          exact w_iret rfl rfl rfl hq
        · replace h4 : q = 1 := (nI_eq (a := q) (b := 1) (by omega) (by omega)).mp (Decidable.not_not.mp h4)
          refine w_blk 3 (pc' := 42) (ls' := [some (.ref 53), some (.int (nI k)), some (.int (nI q))]) (sk' := [.int (nI k), .ref 61]) (st' := st) (fun _ h => h) ?_
          refine w_iald rfl rfl (vp_in_nI (n := k) (N := 16) (by omega) (by decide)) ?_
          rw [nI_clamp (show k < 2 ^ 31 by omega)]
          rw [(hR.2.2.2.2.1 k (by omega)).2]
          refine w_blk 1 (pc' := 56) (ls' := [some (.ref 53), some (.int (nI k)), some (.int (nI q))]) (sk' := [.int (nI (c 4 k))]) (st' := st) (fun _ h => h) ?_
          obtain rfl : q = 1 := by omega
          rw [show sp_spade n c u (nI k) (nI 1) = (nI (c 4 k)) from by unfold sp_spade; rw [if_pos hok, if_neg (by decide), if_pos (show nI 1 = 1 from rfl), ec]] at hq
          exact w_iret rfl rfl rfl hq
      · replace h3 : q = 0 := (nI_eq (a := q) (b := 0) (by omega) (by omega)).mp (Decidable.not_not.mp h3)
        refine w_blk 3 (pc' := 28) (ls' := [some (.ref 53), some (.int (nI k)), some (.int (nI q))]) (sk' := [.int (nI k), .ref 60]) (st' := st) (fun _ h => h) ?_
        refine w_iald rfl rfl (vp_in_nI (n := k) (N := 16) (by omega) (by decide)) ?_
        rw [nI_clamp (show k < 2 ^ 31 by omega)]
        rw [(hR.2.2.2.2.1 k (by omega)).1]
        refine w_blk 1 (pc' := 56) (ls' := [some (.ref 53), some (.int (nI k)), some (.int (nI q))]) (sk' := [.int (nI (c 3 k))]) (st' := st) (fun _ h => h) ?_
        obtain rfl : q = 0 := by omega
        rw [show sp_spade n c u (nI k) (nI 0) = (nI (c 3 k)) from by unfold sp_spade; rw [if_pos hok, if_pos (show nI 0 = 0 from rfl), ec]] at hq
        exact w_iret rfl rfl rfl hq
    · replace h2 := pI_eq0.mp (Decidable.not_not.mp h2)
      refine w_blk 1 (pc' := 18) (ls' := [some (.ref 53), some (.int (nI k)), some (.int w)]) (sk' := [.int (-1)]) (st' := st) (fun _ h => h) ?_
      rw [show sp_spade n c u (nI k) w = (-1) from by unfold sp_spade; rw [if_pos hok, if_neg (fun e => h2 (by rw [e]; decide)), if_neg (fun e => h2 (by rw [e]; decide)), if_neg (fun e => h2 (by rw [e]; decide))]] at hq
      exact w_iret rfl rfl rfl hq
set_option maxRecDepth 20000 in
/-- yard -/
theorem m_yard (d : Nat) (n : Nat → Nat) (c : Nat → Nat → Nat) (v : Nat → Int32) (u : Nat → Nat) (x w : Int32) (st : mSt) (hR : MR st n c) (hM : NM0 st v u) (hB : CB n c) : mMC mT (d + 3) 146 [.ref 53, .int x, .int w] st (some (.int (sp_yard n c u x w))) st := by
  refine mI_X10_yard (d := d + 2) (Nat.le_of_ble_eq_true rfl) (fun Q hq => ?_)
  show mW (mMC mT (d + 2)) (0, fun _ => 0) (mAtL P_X10_yard) (some .int) Q 0 [some (.ref 53), some (.int x), some (.int w)] [] st
  obtain ⟨hb0, hb1, hb2, hbd, hbs, hby⟩ := id hB
  refine w_blk 5 (pc' := 7) (ls' := [some (.ref 53), some (.int x), some (.int w)]) (sk' := [.int 0, .ref 62, .int 0, .int x]) (st' := st) (fun _ h => h) ?_
  refine w_iald rfl rfl (vp_in_nI (n := 0) (N := 2) (by decide) (by decide)) ?_
  rw [show Int32.toNatClampNeg (0 : Int32) = 0 from rfl]
  rw [hR.2.2.1]
  refine w_blk 2 (pc' := 10) (ls' := [some (.ref 53), some (.int x), some (.int w)]) (sk' := [.int ((nI (n 2)) - 1), .int 0, .int x]) (st' := st) (fun _ h => h) ?_
  refine w_callS (As := [.int x, .int 0, .int ((nI (n 2)) - 1)]) (rest := []) rfl rfl rfl (Nat.le_of_ble_eq_true rfl) (Nat.le_of_ble_eq_true rfl) (m_in (d + 1) x 0 ((nI (n 2)) - 1) st) ?_
  rw [show (pI (0 ≤ x ∧ x ≤ ((nI (n 2)) - 1))) = pI (0 ≤ x ∧ x < nI (n 2)) from pI_cong (ok_le (by omega))]
  refine w_if_eq rfl (fun h1 => ?_) (fun h1 => ?_)
  · replace h1 := pI_eq0.mp h1
    refine w_blk 1 (pc' := 26) (ls' := [some (.ref 53), some (.int x), some (.int w)]) (sk' := [.int (-1)]) (st' := st) (fun _ h => h) ?_
    rw [show sp_yard n c u x w = (-1) from if_neg h1] at hq
    exact w_iret rfl rfl rfl hq
  · replace h1 := pI_ne.mp h1
    obtain ⟨k, hk, rfl⟩ := nI_in2 (by omega) h1
    have ec := nI_clamp (show k < 2 ^ 31 by omega)
    have hok : ok2 n (nI k) := nI_in3 (by omega) hk
    refine w_blk 3 (pc' := 19) (ls' := [some (.ref 53), some (.int (nI k)), some (.int w)]) (sk' := [.int 2, .int 0, .int w]) (st' := st) (fun _ h => h) ?_
    refine w_callS (As := [.int w, .int 0, .int 2]) (rest := []) rfl rfl rfl (Nat.le_of_ble_eq_true rfl) (Nat.le_of_ble_eq_true rfl) (m_in (d + 1) w 0 2 st) ?_
    refine w_if_ne rfl (fun h2 => ?_) (fun h2 => ?_)
    · replace h2 := pI_ne.mp h2
      obtain ⟨q, -, hq3, rfl⟩ := nI_within (a := 0) (b := 2) h2 (by decide) (by decide)
      refine w_blk 1 (pc' := 28) (ls' := [some (.ref 53), some (.int (nI k)), some (.int (nI q))]) (sk' := [.int (nI q)]) (st' := st) (fun _ h => h) ?_
      refine w_if_ne rfl (fun h3 => ?_) (fun h3 => ?_)
      · replace h3 : ¬ (q = 0) := fun hh => h3 ((nI_eq (a := q) (b := 0) (by omega) (by omega)).mpr hh)
        refine w_blk 2 (pc' := 42) (ls' := [some (.ref 53), some (.int (nI k)), some (.int (nI q))]) (sk' := [.int 1, .int (nI q)]) (st' := st) (fun _ h => h) ?_
        refine w_cmp_ne rfl (fun h4 => ?_) (fun h4 => ?_)
        · replace h4 : ¬ (q = 1) := fun hh => h4 ((nI_eq (a := q) (b := 1) (by omega) (by omega)).mpr hh)
          refine w_blk 5 (pc' := 62) (ls' := [some (.ref 53), some (.int (nI k)), some (.int (nI q))]) (sk' := [.int (12 + (nI k)), .ref 65]) (st' := st) (fun _ h => h) ?_
          rw [show (12 + (nI k)) = nI (12 + k) from nI_add 12 k]
          refine w_iald rfl rfl (vp_in_nI (n := (12 + k)) (N := 60) (by omega) (by decide)) ?_
          rw [nI_clamp (show (12 + k) < 2 ^ 31 by omega)]
          rw [hM.2 (12 + k) (by omega) (by omega)]
          obtain rfl : q = 2 := by omega
          rw [show sp_yard n c u (nI k) (nI 2) = (nI (u (12 + k))) from by unfold sp_yard; rw [if_pos hok, if_neg (by decide), if_neg (by decide), if_pos (show nI 2 = 2 from rfl), ec]] at hq
          exact w_iret rfl rfl rfl hq
        · replace h4 : q = 1 := (nI_eq (a := q) (b := 1) (by omega) (by omega)).mp (Decidable.not_not.mp h4)
          refine w_blk 3 (pc' := 50) (ls' := [some (.ref 53), some (.int (nI k)), some (.int (nI q))]) (sk' := [.int (nI k), .ref 64]) (st' := st) (fun _ h => h) ?_
          refine w_iald rfl rfl (vp_in_nI (n := k) (N := 16) (by omega) (by decide)) ?_
          rw [nI_clamp (show k < 2 ^ 31 by omega)]
          rw [(hR.2.2.2.2.2 k (by omega)).2]
          refine w_blk 1 (pc' := 63) (ls' := [some (.ref 53), some (.int (nI k)), some (.int (nI q))]) (sk' := [.int (nI (c 6 k))]) (st' := st) (fun _ h => h) ?_
          obtain rfl : q = 1 := by omega
          rw [show sp_yard n c u (nI k) (nI 1) = (nI (c 6 k)) from by unfold sp_yard; rw [if_pos hok, if_neg (by decide), if_pos (show nI 1 = 1 from rfl), ec]] at hq
          exact w_iret rfl rfl rfl hq
      · replace h3 : q = 0 := (nI_eq (a := q) (b := 0) (by omega) (by omega)).mp (Decidable.not_not.mp h3)
        refine w_blk 3 (pc' := 36) (ls' := [some (.ref 53), some (.int (nI k)), some (.int (nI q))]) (sk' := [.int (nI k), .ref 63]) (st' := st) (fun _ h => h) ?_
        refine w_iald rfl rfl (vp_in_nI (n := k) (N := 16) (by omega) (by decide)) ?_
        rw [nI_clamp (show k < 2 ^ 31 by omega)]
        rw [(hR.2.2.2.2.2 k (by omega)).1]
        refine w_blk 1 (pc' := 63) (ls' := [some (.ref 53), some (.int (nI k)), some (.int (nI q))]) (sk' := [.int (nI (c 5 k))]) (st' := st) (fun _ h => h) ?_
        obtain rfl : q = 0 := by omega
        rw [show sp_yard n c u (nI k) (nI 0) = (nI (c 5 k)) from by unfold sp_yard; rw [if_pos hok, if_pos (show nI 0 = 0 from rfl), ec]] at hq
        exact w_iret rfl rfl rfl hq
    · replace h2 := pI_eq0.mp (Decidable.not_not.mp h2)
      refine w_blk 1 (pc' := 26) (ls' := [some (.ref 53), some (.int (nI k)), some (.int w)]) (sk' := [.int (-1)]) (st' := st) (fun _ h => h) ?_
      rw [show sp_yard n c u (nI k) w = (-1) from by unfold sp_yard; rw [if_pos hok, if_neg (fun e => h2 (by rw [e]; decide)), if_neg (fun e => h2 (by rw [e]; decide)), if_neg (fun e => h2 (by rw [e]; decide))]] at hq
      exact w_iret rfl rfl rfl hq
set_option maxRecDepth 20000 in
/-- mayNow(k, j) -/
theorem m_mayNow (d : Nat) (n : Nat → Nat) (c : Nat → Nat → Nat) (v : Nat → Int32) (u : Nat → Nat) (k j : Nat) (st : mSt) (hR : MR st n c) (hM : NM0 st v u) (hB : CB n c) (hU : ∀ j, 3 ≤ j → j < 12 → u j < 256) (hk : k < n 0) (hj : j < n 1) : mMC mT (d + 1) 147 [.ref 53, .int (nI k), .int (nI j)] st (some (.int (pI ((c 4 j = 0 ∨ c 4 j = c 2 k + 1) ∧ (u 5).testBit j = false ∧ (u (6 + k)).testBit j = false)))) st := by
  refine mI_X10_mayNow (d := d + 0) (Nat.le_of_ble_eq_true rfl) (fun Q hq => ?_)
  show mW (mMC mT (d + 0)) (0, fun _ => 0) (mAtL P_X10_mayNow) (some .boolean) Q 0 [some (.ref 53), some (.int (nI k)), some (.int (nI j)), none] [] st
  obtain ⟨hb0, hb1, hb2, hbd, hbs, hby⟩ := id hB
  have hs4 := (hbs j hj).2.2
  have hd2 := (hbd k hk).2.2.2.2
  refine w_blk 3 (pc' := 5) (ls' := [some (.ref 53), some (.int (nI k)), some (.int (nI j)), none]) (sk' := [.int (nI j), .ref 61]) (st' := st) (fun _ h => h) ?_
  refine w_iald rfl rfl (vp_in_nI (n := j) (N := 16) (by omega) (by decide)) ?_
  rw [nI_clamp (show j < 2 ^ 31 by omega)]
  rw [(hR.2.2.2.2.1 j (by omega)).2]
  refine w_if_eq rfl (fun h1 => ?_) (fun h1 => ?_)
  · replace h1 : c 4 j = 0 := (nI_eq (a := (c 4 j)) (b := 0) (by omega) (by omega)).mp h1
    refine w_blk 4 (pc' := 33) (ls' := [some (.ref 53), some (.int (nI k)), some (.int (nI j)), some (.int 1)]) (sk' := [.int 1]) (st' := st) (fun _ h => h) ?_
    refine w_if_eq rfl (fun hno => absurd hno (by decide)) (fun _ => ?_)
    refine w_blk 3 (pc' := 41) (ls' := [some (.ref 53), some (.int (nI k)), some (.int (nI j)), some (.int 1)]) (sk' := [.int 5, .ref 65]) (st' := st) (fun _ h => h) ?_
    refine w_iald rfl rfl (vp_in_nI (n := 5) (N := 60) (by decide) (by decide)) ?_
    rw [show Int32.toNatClampNeg (5 : Int32) = 5 from rfl]
    rw [hM.2 5 (by omega) (by omega)]
    refine w_blk 4 (pc' := 46) (ls' := [some (.ref 53), some (.int (nI k)), some (.int (nI j)), some (.int 1)]) (sk' := [.int (((nI (u 5)) >>> ((nI j) &&& 31)) &&& 1)]) (st' := st) (fun _ h => h) ?_
    rw [show (((nI (u 5)) >>> ((nI j) &&& 31)) &&& 1) = pI (Nat.testBit (u 5) j = true) from nI_bit (by omega) (by have := hU 5 (by omega) (by omega); omega)]
    refine w_if_ne rfl (fun h2 => ?_) (fun h2 => ?_)
    · replace h2 := pI_ne.mp h2
      refine w_blk 1 (pc' := 70) (ls' := [some (.ref 53), some (.int (nI k)), some (.int (nI j)), some (.int 1)]) (sk' := [.int 0]) (st' := st) (fun _ h => h) ?_
      rw [pI_f (fun hh => by first | (have := hh.1; omega) | exact absurd (show (u 5).testBit j = true by assumption) (tb_false.mpr hh.2.1) | exact absurd (show (u (6 + k)).testBit j = true by assumption) (tb_false.mpr hh.2.2))] at hq
      exact w_iret rfl rfl rfl hq
    · replace h2 := pI_eq0.mp (Decidable.not_not.mp h2)
      refine w_blk 5 (pc' := 57) (ls' := [some (.ref 53), some (.int (nI k)), some (.int (nI j)), some (.int 1)]) (sk' := [.int (6 + (nI k)), .ref 65]) (st' := st) (fun _ h => h) ?_
      rw [show (6 + (nI k)) = nI (6 + k) from nI_add 6 k]
      refine w_iald rfl rfl (vp_in_nI (n := (6 + k)) (N := 60) (by omega) (by decide)) ?_
      rw [nI_clamp (show (6 + k) < 2 ^ 31 by omega)]
      rw [hM.2 (6 + k) (by omega) (by omega)]
      refine w_blk 4 (pc' := 62) (ls' := [some (.ref 53), some (.int (nI k)), some (.int (nI j)), some (.int 1)]) (sk' := [.int (((nI (u (6 + k))) >>> ((nI j) &&& 31)) &&& 1)]) (st' := st) (fun _ h => h) ?_
      rw [show (((nI (u (6 + k))) >>> ((nI j) &&& 31)) &&& 1) = pI (Nat.testBit (u (6 + k)) j = true) from nI_bit (by omega) (by have := hU (6 + k) (by omega) (by omega); omega)]
      refine w_if_ne rfl (fun h3 => ?_) (fun h3 => ?_)
      · replace h3 := pI_ne.mp h3
        refine w_blk 1 (pc' := 70) (ls' := [some (.ref 53), some (.int (nI k)), some (.int (nI j)), some (.int 1)]) (sk' := [.int 0]) (st' := st) (fun _ h => h) ?_
        rw [pI_f (fun hh => by first | (have := hh.1; omega) | exact absurd (show (u 5).testBit j = true by assumption) (tb_false.mpr hh.2.1) | exact absurd (show (u (6 + k)).testBit j = true by assumption) (tb_false.mpr hh.2.2))] at hq
        exact w_iret rfl rfl rfl hq
      · replace h3 := pI_eq0.mp (Decidable.not_not.mp h3)
        refine w_blk 2 (pc' := 70) (ls' := [some (.ref 53), some (.int (nI k)), some (.int (nI j)), some (.int 1)]) (sk' := [.int 1]) (st' := st) (fun _ h => h) ?_
        rw [pI_t ⟨by omega, tb_false.mp (by assumption), tb_false.mp (by assumption)⟩] at hq
        exact w_iret rfl rfl rfl hq
  · replace h1 : ¬ (c 4 j = 0) := fun hh => h1 ((nI_eq (a := (c 4 j)) (b := 0) (by omega) (by omega)).mpr hh)
    refine w_blk 3 (pc' := 14) (ls' := [some (.ref 53), some (.int (nI k)), some (.int (nI j)), none]) (sk' := [.int (nI j), .ref 61]) (st' := st) (fun _ h => h) ?_
    refine w_iald rfl rfl (vp_in_nI (n := j) (N := 16) (by omega) (by decide)) ?_
    rw [nI_clamp (show j < 2 ^ 31 by omega)]
    rw [(hR.2.2.2.2.1 j (by omega)).2]
    refine w_blk 2 (pc' := 17) (ls' := [some (.ref 53), some (.int (nI k)), some (.int (nI j)), none]) (sk' := [.int ((nI (c 4 j)) - 1)]) (st' := st) (fun _ h => h) ?_
    rw [show ((nI (c 4 j)) - 1) = nI ((c 4 j) - 1) from pk_sub (a := c 4 j) (b := 1) (by omega)]
    refine w_blk 3 (pc' := 22) (ls' := [some (.ref 53), some (.int (nI k)), some (.int (nI j)), none]) (sk' := [.int (nI k), .ref 58, .int (nI ((c 4 j) - 1))]) (st' := st) (fun _ h => h) ?_
    refine w_iald rfl rfl (vp_in_nI (n := k) (N := 12) (by omega) (by decide)) ?_
    rw [nI_clamp (show k < 2 ^ 31 by omega)]
    rw [(hR.2.2.2.1 k (by omega)).2.2]
    refine w_cmp_ne rfl (fun h2 => ?_) (fun h2 => ?_)
    · replace h2 : ¬ ((c 4 j) - 1 = c 2 k) := fun hh => h2 ((nI_eq (a := ((c 4 j) - 1)) (b := (c 2 k)) (by omega) (by omega)).mpr hh)
      refine w_blk 3 (pc' := 33) (ls' := [some (.ref 53), some (.int (nI k)), some (.int (nI j)), some (.int 0)]) (sk' := [.int 0]) (st' := st) (fun _ h => h) ?_
      refine w_if_eq rfl (fun _ => ?_) (fun hno => absurd (by decide) hno)
      refine w_blk 1 (pc' := 70) (ls' := [some (.ref 53), some (.int (nI k)), some (.int (nI j)), some (.int 0)]) (sk' := [.int 0]) (st' := st) (fun _ h => h) ?_
      rw [pI_f (fun hh => by first | (have := hh.1; omega) | exact absurd (show (u 5).testBit j = true by assumption) (tb_false.mpr hh.2.1) | exact absurd (show (u (6 + k)).testBit j = true by assumption) (tb_false.mpr hh.2.2))] at hq
      exact w_iret rfl rfl rfl hq
    · replace h2 : (c 4 j) - 1 = c 2 k := (nI_eq (a := ((c 4 j) - 1)) (b := (c 2 k)) (by omega) (by omega)).mp (Decidable.not_not.mp h2)
      refine w_blk 4 (pc' := 33) (ls' := [some (.ref 53), some (.int (nI k)), some (.int (nI j)), some (.int 1)]) (sk' := [.int 1]) (st' := st) (fun _ h => h) ?_
      refine w_if_eq rfl (fun hno => absurd hno (by decide)) (fun _ => ?_)
      refine w_blk 3 (pc' := 41) (ls' := [some (.ref 53), some (.int (nI k)), some (.int (nI j)), some (.int 1)]) (sk' := [.int 5, .ref 65]) (st' := st) (fun _ h => h) ?_
      refine w_iald rfl rfl (vp_in_nI (n := 5) (N := 60) (by decide) (by decide)) ?_
      rw [show Int32.toNatClampNeg (5 : Int32) = 5 from rfl]
      rw [hM.2 5 (by omega) (by omega)]
      refine w_blk 4 (pc' := 46) (ls' := [some (.ref 53), some (.int (nI k)), some (.int (nI j)), some (.int 1)]) (sk' := [.int (((nI (u 5)) >>> ((nI j) &&& 31)) &&& 1)]) (st' := st) (fun _ h => h) ?_
      rw [show (((nI (u 5)) >>> ((nI j) &&& 31)) &&& 1) = pI (Nat.testBit (u 5) j = true) from nI_bit (by omega) (by have := hU 5 (by omega) (by omega); omega)]
      refine w_if_ne rfl (fun h3 => ?_) (fun h3 => ?_)
      · replace h3 := pI_ne.mp h3
        refine w_blk 1 (pc' := 70) (ls' := [some (.ref 53), some (.int (nI k)), some (.int (nI j)), some (.int 1)]) (sk' := [.int 0]) (st' := st) (fun _ h => h) ?_
        rw [pI_f (fun hh => by first | (have := hh.1; omega) | exact absurd (show (u 5).testBit j = true by assumption) (tb_false.mpr hh.2.1) | exact absurd (show (u (6 + k)).testBit j = true by assumption) (tb_false.mpr hh.2.2))] at hq
        exact w_iret rfl rfl rfl hq
      · replace h3 := pI_eq0.mp (Decidable.not_not.mp h3)
        refine w_blk 5 (pc' := 57) (ls' := [some (.ref 53), some (.int (nI k)), some (.int (nI j)), some (.int 1)]) (sk' := [.int (6 + (nI k)), .ref 65]) (st' := st) (fun _ h => h) ?_
        rw [show (6 + (nI k)) = nI (6 + k) from nI_add 6 k]
        refine w_iald rfl rfl (vp_in_nI (n := (6 + k)) (N := 60) (by omega) (by decide)) ?_
        rw [nI_clamp (show (6 + k) < 2 ^ 31 by omega)]
        rw [hM.2 (6 + k) (by omega) (by omega)]
        refine w_blk 4 (pc' := 62) (ls' := [some (.ref 53), some (.int (nI k)), some (.int (nI j)), some (.int 1)]) (sk' := [.int (((nI (u (6 + k))) >>> ((nI j) &&& 31)) &&& 1)]) (st' := st) (fun _ h => h) ?_
        rw [show (((nI (u (6 + k))) >>> ((nI j) &&& 31)) &&& 1) = pI (Nat.testBit (u (6 + k)) j = true) from nI_bit (by omega) (by have := hU (6 + k) (by omega) (by omega); omega)]
        refine w_if_ne rfl (fun h4 => ?_) (fun h4 => ?_)
        · replace h4 := pI_ne.mp h4
          refine w_blk 1 (pc' := 70) (ls' := [some (.ref 53), some (.int (nI k)), some (.int (nI j)), some (.int 1)]) (sk' := [.int 0]) (st' := st) (fun _ h => h) ?_
          rw [pI_f (fun hh => by first | (have := hh.1; omega) | exact absurd (show (u 5).testBit j = true by assumption) (tb_false.mpr hh.2.1) | exact absurd (show (u (6 + k)).testBit j = true by assumption) (tb_false.mpr hh.2.2))] at hq
          exact w_iret rfl rfl rfl hq
        · replace h4 := pI_eq0.mp (Decidable.not_not.mp h4)
          refine w_blk 2 (pc' := 70) (ls' := [some (.ref 53), some (.int (nI k)), some (.int (nI j)), some (.int 1)]) (sk' := [.int 1]) (st' := st) (fun _ h => h) ?_
          rw [pI_t ⟨by omega, tb_false.mp (by assumption), tb_false.mp (by assumption)⟩] at hq
          exact w_iret rfl rfl rfl hq
