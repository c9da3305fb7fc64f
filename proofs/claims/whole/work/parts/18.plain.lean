/-! WHAT THE CALLS ANSWER, in numbers; the plain calls of both sides -/
def dgP (n : Nat → Nat) (x : Int32) : Prop := 0 ≤ x ∧ x < nI (n 0)
def mayP (c : Nat → Nat → Nat) (u : Nat → Nat) (d s : Nat) : Prop := (c 4 s = 0 ∨ c 4 s = c 2 d + 1) ∧ (u 5).testBit s = false ∧ (u (6 + d)).testBit s = false
abbrev ok0 (n : Nat → Nat) (x : Int32) : Prop := 0 ≤ x ∧ x < nI (n 0)
abbrev ok1 (n : Nat → Nat) (x : Int32) : Prop := 0 ≤ x ∧ x < nI (n 1)
abbrev ok2 (n : Nat → Nat) (x : Int32) : Prop := 0 ≤ x ∧ x < nI (n 2)
def sp_digger (n : Nat → Nat) (c : Nat → Nat → Nat) (u : Nat → Nat) (x w : Int32) : Int32 := if ok0 n x then (if w = 0 then nI (c 0 x.toNatClampNeg) else if w = 1 then nI (c 1 x.toNatClampNeg) else if w = 2 then nI (c 2 x.toNatClampNeg) else if w = 3 then nI (u (6 + x.toNatClampNeg)) else -1) else -1
def sp_spade (n : Nat → Nat) (c : Nat → Nat → Nat) (u : Nat → Nat) (x w : Int32) : Int32 := if ok1 n x then (if w = 0 then nI (c 3 x.toNatClampNeg) else if w = 1 then nI (c 4 x.toNatClampNeg) else if w = 2 then pI ((u 5).testBit x.toNatClampNeg = true) else -1) else -1
def sp_yard (n : Nat → Nat) (c : Nat → Nat → Nat) (u : Nat → Nat) (x w : Int32) : Int32 := if ok2 n x then (if w = 0 then nI (c 5 x.toNatClampNeg) else if w = 1 then nI (c 6 x.toNatClampNeg) else if w = 2 then nI (u (12 + x.toNatClampNeg)) else -1) else -1
theorem ok_le {m : Nat} (hm : m < 2 ^ 31) {x : Int32} : (0 ≤ x ∧ x ≤ nI m - 1) ↔ (0 ≤ x ∧ x < nI m) := by
  have h1 : (nI m - 1).toInt = (m : Int) - 1 := by
    cases m with
    | zero => decide
    | succ k => rw [show nI (k + 1) - 1 = nI k from nI_pred k, nI_toInt (by omega)]; omega
  simp only [Int32.le_iff_toInt_le, Int32.lt_iff_toInt_lt, h1, nI_toInt hm]
  omega
set_option maxRecDepth 20000 in
/-- digger -/
theorem x_digger_5 (d : Nat) (n : Nat → Nat) (c : Nat → Nat → Nat) (v : Nat → Int32) (u : Nat → Nat) (yd : Nat) (x w : Int32) (st : mSt) (hcw : st.1 0 1 = nI 5) (hX : X5 st n c) (hB : CB n c) (hN : N21 st v u yd) : mMC mT (d + 3) 88 [.ref 0, .int x, .int w] st (some (.int (sp_digger n c u x w))) st := by
  refine mI_X9_digger (d := d + 2) (Nat.le_of_ble_eq_true rfl) (fun Q hq => ?_)
  show mW (mMC mT (d + 2)) (0, fun _ => 0) (mAtL P_X9_digger) (some .int) Q 0 [some (.ref 0), some (.int x), some (.int w)] [] st
  have hcr : (st.1 0 1).toNatClampNeg = 5 := by rw [hcw]; rfl
  obtain ⟨hn0, hn1, hn2, hxd, hxs, hxy⟩ := id hX
  obtain ⟨hb0, hb1, hb2, hbd, hbs, hby⟩ := id hB
  obtain ⟨hv0, hv1, hv2, hv3, hu3, hu4, hu5, hut, huo⟩ := id hN
  refine w_blk 1 (pc' := 1) (ls' := [some (.ref 0), some (.int x), some (.int w)]) (sk' := [.ref 0]) (st' := st) (fun _ h => h) ?_
  refine w_blk 1 (pc' := 4) (ls' := [some (.ref 0), some (.int x), some (.int w)]) (sk' := [.ref (Int32.toNatClampNeg (st.1 0 1))]) (st' := st) (fun _ h => h) ?_
  rw [hcr]
  refine w_blk 1 (pc' := 5) (ls' := [some (.ref 0), some (.int x), some (.int w)]) (sk' := [.int x, .ref 5]) (st' := st) (fun _ h => h) ?_
  refine w_callV (As := [.ref 5, .int x]) (rest := []) rfl rfl rfl (Nat.le_of_ble_eq_true rfl) (Nat.le_of_ble_eq_true rfl) (by first | exact Or.inl ⟨rfl, rfl⟩ | exact Or.inr ⟨rfl, rfl⟩) (c_hasDigger_5 (d + 1) x st) ?_
  rw [hn0]
  refine w_if_ne rfl (fun h1 => ?_) (fun h1 => ?_)
  · replace h1 := pI_ne.mp h1
    refine w_blk 1 (pc' := 14) (ls' := [some (.ref 0), some (.int x), some (.int w)]) (sk' := [.int w]) (st' := st) (fun _ h => h) ?_
    obtain ⟨k, hk, rfl⟩ := nI_in2 (by omega) h1
    by_cases hw0 : w = 0
    · subst hw0
      refine w_tblIn (t := 44) rfl (by decide) (by decide) rfl rfl ?_
      refine w_blk 1 (pc' := 45) (ls' := [some (.ref 0), some (.int (nI k)), some (.int 0)]) (sk' := [.ref 0]) (st' := st) (fun _ h => h) ?_
      refine w_blk 1 (pc' := 48) (ls' := [some (.ref 0), some (.int (nI k)), some (.int 0)]) (sk' := [.ref (Int32.toNatClampNeg (st.1 0 1))]) (st' := st) (fun _ h => h) ?_
      rw [hcr]
      refine w_blk 2 (pc' := 52) (ls' := [some (.ref 0), some (.int (nI k)), some (.int 0)]) (sk' := [.int (nI k), .ref 6]) (st' := st) (fun _ h => h) ?_
      refine w_callS (As := [.ref 6, .int (nI k)]) (rest := []) rfl rfl rfl (Nat.le_of_ble_eq_true rfl) (Nat.le_of_ble_eq_true rfl) (c_cellK (d + 1) 6 6 k st (by omega) (by decide) rfl) ?_
      rw [(hxd k hk).1]
      rw [show sp_digger n c u (nI k) 0 = (nI (c 0 k)) from by unfold sp_digger; rw [if_pos (nI_in3 (by omega) hk), if_pos rfl, nI_clamp (show k < 2 ^ 31 by omega)]] at hq
      exact w_iret rfl rfl rfl hq
    · by_cases hw1 : w = 1
      · subst hw1
        refine w_tblIn (t := 56) rfl (by decide) (by decide) rfl rfl ?_
        refine w_blk 1 (pc' := 57) (ls' := [some (.ref 0), some (.int (nI k)), some (.int 1)]) (sk' := [.ref 0]) (st' := st) (fun _ h => h) ?_
        refine w_blk 1 (pc' := 60) (ls' := [some (.ref 0), some (.int (nI k)), some (.int 1)]) (sk' := [.ref (Int32.toNatClampNeg (st.1 0 1))]) (st' := st) (fun _ h => h) ?_
        rw [hcr]
        refine w_blk 2 (pc' := 64) (ls' := [some (.ref 0), some (.int (nI k)), some (.int 1)]) (sk' := [.int (nI k), .ref 7]) (st' := st) (fun _ h => h) ?_
        refine w_callS (As := [.ref 7, .int (nI k)]) (rest := []) rfl rfl rfl (Nat.le_of_ble_eq_true rfl) (Nat.le_of_ble_eq_true rfl) (c_cellK (d + 1) 7 6 k st (by omega) (by decide) rfl) ?_
        rw [(hxd k hk).2.1]
        rw [show sp_digger n c u (nI k) 1 = (nI (c 1 k)) from by unfold sp_digger; rw [if_pos (nI_in3 (by omega) hk), if_neg (by decide), if_pos rfl, nI_clamp (show k < 2 ^ 31 by omega)]] at hq
        exact w_iret rfl rfl rfl hq
      · by_cases hw2 : w = 2
        · subst hw2
          refine w_tblIn (t := 68) rfl (by decide) (by decide) rfl rfl ?_
          refine w_blk 1 (pc' := 69) (ls' := [some (.ref 0), some (.int (nI k)), some (.int 2)]) (sk' := [.ref 0]) (st' := st) (fun _ h => h) ?_
          refine w_blk 1 (pc' := 72) (ls' := [some (.ref 0), some (.int (nI k)), some (.int 2)]) (sk' := [.ref (Int32.toNatClampNeg (st.1 0 1))]) (st' := st) (fun _ h => h) ?_
          rw [hcr]
          refine w_blk 2 (pc' := 76) (ls' := [some (.ref 0), some (.int (nI k)), some (.int 2)]) (sk' := [.int (nI k), .ref 8]) (st' := st) (fun _ h => h) ?_
          refine w_callS (As := [.ref 8, .int (nI k)]) (rest := []) rfl rfl rfl (Nat.le_of_ble_eq_true rfl) (Nat.le_of_ble_eq_true rfl) (c_cellK (d + 1) 8 6 k st (by omega) (by decide) rfl) ?_
          rw [(hxd k hk).2.2]
          rw [show sp_digger n c u (nI k) 2 = (nI (c 2 k)) from by unfold sp_digger; rw [if_pos (nI_in3 (by omega) hk), if_neg (by decide), if_neg (by decide), if_pos rfl, nI_clamp (show k < 2 ^ 31 by omega)]] at hq
          exact w_iret rfl rfl rfl hq
        · by_cases hw3 : w = 3
          · subst hw3
            refine w_tblIn (t := 80) rfl (by decide) (by decide) rfl rfl ?_
            refine w_blk 4 (pc' := 88) (ls' := [some (.ref 0), some (.int (nI k)), some (.int 3)]) (sk' := [.int (nI k), .ref 22]) (st' := st) (fun _ h => h) ?_
            refine w_callS (As := [.ref 22, .int (nI k)]) (rest := []) rfl rfl rfl (Nat.le_of_ble_eq_true rfl) (Nat.le_of_ble_eq_true rfl) (c_cellK (d + 1) 22 6 k st (by omega) (by decide) rfl) ?_
            rw [hut k (by omega)]
            rw [show sp_digger n c u (nI k) 3 = (nI (u (6 + k))) from by unfold sp_digger; rw [if_pos (nI_in3 (by omega) hk), if_neg (by decide), if_neg (by decide), if_neg (by decide), if_pos rfl, nI_clamp (show k < 2 ^ 31 by omega)]] at hq
            exact w_iret rfl rfl rfl hq
          · refine w_tblOut (t := 92) rfl (tbl_out 3 (by decide) (by intro k hk; rcases (show k = 0 ∨ k = 1 ∨ k = 2 ∨ k = 3 by omega) with rfl | rfl | rfl | rfl <;> assumption)) rfl ?_
            refine w_blk 1 (pc' := 93) (ls' := [some (.ref 0), some (.int (nI k)), some (.int w)]) (sk' := [.int (-1)]) (st' := st) (fun _ h => h) ?_
            rw [show (sp_digger n c u (nI k) w) = (-1) from by unfold sp_digger; rw [if_pos (nI_in3 (by omega) hk), if_neg hw0, if_neg hw1, if_neg hw2, if_neg hw3]] at hq
            exact w_iret rfl rfl rfl hq
  · replace h1 := pI_eq0.mp (Decidable.not_not.mp h1)
    refine w_blk 1 (pc' := 12) (ls' := [some (.ref 0), some (.int x), some (.int w)]) (sk' := [.int (-1)]) (st' := st) (fun _ h => h) ?_
    rw [show (sp_digger n c u x w) = (-1) from if_neg h1] at hq
    exact w_iret rfl rfl rfl hq
set_option maxRecDepth 20000 in
/-- digger -/
theorem x_digger_13 (d : Nat) (n : Nat → Nat) (c : Nat → Nat → Nat) (v : Nat → Int32) (u : Nat → Nat) (yd : Nat) (x w : Int32) (st : mSt) (hcw : st.1 0 1 = nI 13) (hX : X13 st n c) (hB : CB n c) (hN : N21 st v u yd) : mMC mT (d + 3) 88 [.ref 0, .int x, .int w] st (some (.int (sp_digger n c u x w))) st := by
  refine mI_X9_digger (d := d + 2) (Nat.le_of_ble_eq_true rfl) (fun Q hq => ?_)
  show mW (mMC mT (d + 2)) (0, fun _ => 0) (mAtL P_X9_digger) (some .int) Q 0 [some (.ref 0), some (.int x), some (.int w)] [] st
  have hcr : (st.1 0 1).toNatClampNeg = 13 := by rw [hcw]; rfl
  obtain ⟨hn0, hn1, hn2, hxd, hxs, hxy⟩ := id hX
  obtain ⟨hb0, hb1, hb2, hbd, hbs, hby⟩ := id hB
  obtain ⟨hv0, hv1, hv2, hv3, hu3, hu4, hu5, hut, huo⟩ := id hN
  refine w_blk 1 (pc' := 1) (ls' := [some (.ref 0), some (.int x), some (.int w)]) (sk' := [.ref 0]) (st' := st) (fun _ h => h) ?_
  refine w_blk 1 (pc' := 4) (ls' := [some (.ref 0), some (.int x), some (.int w)]) (sk' := [.ref (Int32.toNatClampNeg (st.1 0 1))]) (st' := st) (fun _ h => h) ?_
  rw [hcr]
  refine w_blk 1 (pc' := 5) (ls' := [some (.ref 0), some (.int x), some (.int w)]) (sk' := [.int x, .ref 13]) (st' := st) (fun _ h => h) ?_
  refine w_callV (As := [.ref 13, .int x]) (rest := []) rfl rfl rfl (Nat.le_of_ble_eq_true rfl) (Nat.le_of_ble_eq_true rfl) (by first | exact Or.inl ⟨rfl, rfl⟩ | exact Or.inr ⟨rfl, rfl⟩) (c_hasDigger_13 (d + 1) x st) ?_
  rw [hn0]
  refine w_if_ne rfl (fun h1 => ?_) (fun h1 => ?_)
  · replace h1 := pI_ne.mp h1
    refine w_blk 1 (pc' := 14) (ls' := [some (.ref 0), some (.int x), some (.int w)]) (sk' := [.int w]) (st' := st) (fun _ h => h) ?_
    obtain ⟨k, hk, rfl⟩ := nI_in2 (by omega) h1
    by_cases hw0 : w = 0
    · subst hw0
      refine w_tblIn (t := 44) rfl (by decide) (by decide) rfl rfl ?_
      refine w_blk 1 (pc' := 45) (ls' := [some (.ref 0), some (.int (nI k)), some (.int 0)]) (sk' := [.ref 0]) (st' := st) (fun _ h => h) ?_
      refine w_blk 1 (pc' := 48) (ls' := [some (.ref 0), some (.int (nI k)), some (.int 0)]) (sk' := [.ref (Int32.toNatClampNeg (st.1 0 1))]) (st' := st) (fun _ h => h) ?_
      rw [hcr]
      refine w_blk 2 (pc' := 52) (ls' := [some (.ref 0), some (.int (nI k)), some (.int 0)]) (sk' := [.int (nI k), .ref 14]) (st' := st) (fun _ h => h) ?_
      refine w_callS (As := [.ref 14, .int (nI k)]) (rest := []) rfl rfl rfl (Nat.le_of_ble_eq_true rfl) (Nat.le_of_ble_eq_true rfl) (c_cellK (d + 1) 14 6 k st (by omega) (by decide) rfl) ?_
      rw [(hxd k hk).1]
      rw [show sp_digger n c u (nI k) 0 = (nI (c 0 k)) from by unfold sp_digger; rw [if_pos (nI_in3 (by omega) hk), if_pos rfl, nI_clamp (show k < 2 ^ 31 by omega)]] at hq
      exact w_iret rfl rfl rfl hq
    · by_cases hw1 : w = 1
      · subst hw1
        refine w_tblIn (t := 56) rfl (by decide) (by decide) rfl rfl ?_
        refine w_blk 1 (pc' := 57) (ls' := [some (.ref 0), some (.int (nI k)), some (.int 1)]) (sk' := [.ref 0]) (st' := st) (fun _ h => h) ?_
        refine w_blk 1 (pc' := 60) (ls' := [some (.ref 0), some (.int (nI k)), some (.int 1)]) (sk' := [.ref (Int32.toNatClampNeg (st.1 0 1))]) (st' := st) (fun _ h => h) ?_
        rw [hcr]
        refine w_blk 2 (pc' := 64) (ls' := [some (.ref 0), some (.int (nI k)), some (.int 1)]) (sk' := [.int (nI k), .ref 15]) (st' := st) (fun _ h => h) ?_
        refine w_callS (As := [.ref 15, .int (nI k)]) (rest := []) rfl rfl rfl (Nat.le_of_ble_eq_true rfl) (Nat.le_of_ble_eq_true rfl) (c_cellK (d + 1) 15 6 k st (by omega) (by decide) rfl) ?_
        rw [(hxd k hk).2.1]
        rw [show sp_digger n c u (nI k) 1 = (nI (c 1 k)) from by unfold sp_digger; rw [if_pos (nI_in3 (by omega) hk), if_neg (by decide), if_pos rfl, nI_clamp (show k < 2 ^ 31 by omega)]] at hq
        exact w_iret rfl rfl rfl hq
      · by_cases hw2 : w = 2
        · subst hw2
          refine w_tblIn (t := 68) rfl (by decide) (by decide) rfl rfl ?_
          refine w_blk 1 (pc' := 69) (ls' := [some (.ref 0), some (.int (nI k)), some (.int 2)]) (sk' := [.ref 0]) (st' := st) (fun _ h => h) ?_
          refine w_blk 1 (pc' := 72) (ls' := [some (.ref 0), some (.int (nI k)), some (.int 2)]) (sk' := [.ref (Int32.toNatClampNeg (st.1 0 1))]) (st' := st) (fun _ h => h) ?_
          rw [hcr]
          refine w_blk 2 (pc' := 76) (ls' := [some (.ref 0), some (.int (nI k)), some (.int 2)]) (sk' := [.int (nI k), .ref 16]) (st' := st) (fun _ h => h) ?_
          refine w_callS (As := [.ref 16, .int (nI k)]) (rest := []) rfl rfl rfl (Nat.le_of_ble_eq_true rfl) (Nat.le_of_ble_eq_true rfl) (c_cellK (d + 1) 16 6 k st (by omega) (by decide) rfl) ?_
          rw [(hxd k hk).2.2]
          rw [show sp_digger n c u (nI k) 2 = (nI (c 2 k)) from by unfold sp_digger; rw [if_pos (nI_in3 (by omega) hk), if_neg (by decide), if_neg (by decide), if_pos rfl, nI_clamp (show k < 2 ^ 31 by omega)]] at hq
          exact w_iret rfl rfl rfl hq
        · by_cases hw3 : w = 3
          · subst hw3
            refine w_tblIn (t := 80) rfl (by decide) (by decide) rfl rfl ?_
            refine w_blk 4 (pc' := 88) (ls' := [some (.ref 0), some (.int (nI k)), some (.int 3)]) (sk' := [.int (nI k), .ref 22]) (st' := st) (fun _ h => h) ?_
            refine w_callS (As := [.ref 22, .int (nI k)]) (rest := []) rfl rfl rfl (Nat.le_of_ble_eq_true rfl) (Nat.le_of_ble_eq_true rfl) (c_cellK (d + 1) 22 6 k st (by omega) (by decide) rfl) ?_
            rw [hut k (by omega)]
            rw [show sp_digger n c u (nI k) 3 = (nI (u (6 + k))) from by unfold sp_digger; rw [if_pos (nI_in3 (by omega) hk), if_neg (by decide), if_neg (by decide), if_neg (by decide), if_pos rfl, nI_clamp (show k < 2 ^ 31 by omega)]] at hq
            exact w_iret rfl rfl rfl hq
          · refine w_tblOut (t := 92) rfl (tbl_out 3 (by decide) (by intro k hk; rcases (show k = 0 ∨ k = 1 ∨ k = 2 ∨ k = 3 by omega) with rfl | rfl | rfl | rfl <;> assumption)) rfl ?_
            refine w_blk 1 (pc' := 93) (ls' := [some (.ref 0), some (.int (nI k)), some (.int w)]) (sk' := [.int (-1)]) (st' := st) (fun _ h => h) ?_
            rw [show (sp_digger n c u (nI k) w) = (-1) from by unfold sp_digger; rw [if_pos (nI_in3 (by omega) hk), if_neg hw0, if_neg hw1, if_neg hw2, if_neg hw3]] at hq
            exact w_iret rfl rfl rfl hq
  · replace h1 := pI_eq0.mp (Decidable.not_not.mp h1)
    refine w_blk 1 (pc' := 12) (ls' := [some (.ref 0), some (.int x), some (.int w)]) (sk' := [.int (-1)]) (st' := st) (fun _ h => h) ?_
    rw [show (sp_digger n c u x w) = (-1) from if_neg h1] at hq
    exact w_iret rfl rfl rfl hq
set_option maxRecDepth 20000 in
/-- spade -/
theorem x_spade_5 (d : Nat) (n : Nat → Nat) (c : Nat → Nat → Nat) (v : Nat → Int32) (u : Nat → Nat) (yd : Nat) (x w : Int32) (st : mSt) (hcw : st.1 0 1 = nI 5) (hX : X5 st n c) (hB : CB n c) (hN : N21 st v u yd) (hU : u 5 < 256) : mMC mT (d + 3) 89 [.ref 0, .int x, .int w] st (some (.int (sp_spade n c u x w))) st := by
  refine mI_X9_spade (d := d + 2) (Nat.le_of_ble_eq_true rfl) (fun Q hq => ?_)
  show mW (mMC mT (d + 2)) (0, fun _ => 0) (mAtL P_X9_spade) (some .int) Q 0 [some (.ref 0), some (.int x), some (.int w)] [] st
  have hcr : (st.1 0 1).toNatClampNeg = 5 := by rw [hcw]; rfl
  obtain ⟨hn0, hn1, hn2, hxd, hxs, hxy⟩ := id hX
  obtain ⟨hb0, hb1, hb2, hbd, hbs, hby⟩ := id hB
  obtain ⟨hv0, hv1, hv2, hv3, hu3, hu4, hu5, hut, huo⟩ := id hN
  refine w_blk 1 (pc' := 1) (ls' := [some (.ref 0), some (.int x), some (.int w)]) (sk' := [.ref 0]) (st' := st) (fun _ h => h) ?_
  refine w_blk 1 (pc' := 4) (ls' := [some (.ref 0), some (.int x), some (.int w)]) (sk' := [.ref (Int32.toNatClampNeg (st.1 0 1))]) (st' := st) (fun _ h => h) ?_
  rw [hcr]
  refine w_blk 1 (pc' := 5) (ls' := [some (.ref 0), some (.int x), some (.int w)]) (sk' := [.int x, .ref 5]) (st' := st) (fun _ h => h) ?_
  refine w_callV (As := [.ref 5, .int x]) (rest := []) rfl rfl rfl (Nat.le_of_ble_eq_true rfl) (Nat.le_of_ble_eq_true rfl) (by first | exact Or.inl ⟨rfl, rfl⟩ | exact Or.inr ⟨rfl, rfl⟩) (c_hasSpade_5 (d + 1) x st) ?_
  rw [hn1]
  refine w_if_ne rfl (fun h1 => ?_) (fun h1 => ?_)
  · replace h1 := pI_ne.mp h1
    refine w_blk 1 (pc' := 14) (ls' := [some (.ref 0), some (.int x), some (.int w)]) (sk' := [.int w]) (st' := st) (fun _ h => h) ?_
    obtain ⟨k, hk, rfl⟩ := nI_in2 (by omega) h1
    by_cases hw0 : w = 0
    · subst hw0
      refine w_tblIn (t := 40) rfl (by decide) (by decide) rfl rfl ?_
      refine w_blk 1 (pc' := 41) (ls' := [some (.ref 0), some (.int (nI k)), some (.int 0)]) (sk' := [.ref 0]) (st' := st) (fun _ h => h) ?_
      refine w_blk 1 (pc' := 44) (ls' := [some (.ref 0), some (.int (nI k)), some (.int 0)]) (sk' := [.ref (Int32.toNatClampNeg (st.1 0 1))]) (st' := st) (fun _ h => h) ?_
      rw [hcr]
      refine w_blk 2 (pc' := 48) (ls' := [some (.ref 0), some (.int (nI k)), some (.int 0)]) (sk' := [.int (nI k), .ref 9]) (st' := st) (fun _ h => h) ?_
      refine w_callS (As := [.ref 9, .int (nI k)]) (rest := []) rfl rfl rfl (Nat.le_of_ble_eq_true rfl) (Nat.le_of_ble_eq_true rfl) (c_cellK (d + 1) 9 8 k st (by omega) (by decide) rfl) ?_
      rw [(hxs k hk).1]
      rw [show sp_spade n c u (nI k) 0 = (nI (c 3 k)) from by unfold sp_spade; rw [if_pos (nI_in3 (by omega) hk), if_pos rfl, nI_clamp (show k < 2 ^ 31 by omega)]] at hq
      exact w_iret rfl rfl rfl hq
    · by_cases hw1 : w = 1
      · subst hw1
        refine w_tblIn (t := 52) rfl (by decide) (by decide) rfl rfl ?_
        refine w_blk 1 (pc' := 53) (ls' := [some (.ref 0), some (.int (nI k)), some (.int 1)]) (sk' := [.ref 0]) (st' := st) (fun _ h => h) ?_
        refine w_blk 1 (pc' := 56) (ls' := [some (.ref 0), some (.int (nI k)), some (.int 1)]) (sk' := [.ref (Int32.toNatClampNeg (st.1 0 1))]) (st' := st) (fun _ h => h) ?_
        rw [hcr]
        refine w_blk 2 (pc' := 60) (ls' := [some (.ref 0), some (.int (nI k)), some (.int 1)]) (sk' := [.int (nI k), .ref 10]) (st' := st) (fun _ h => h) ?_
        refine w_callS (As := [.ref 10, .int (nI k)]) (rest := []) rfl rfl rfl (Nat.le_of_ble_eq_true rfl) (Nat.le_of_ble_eq_true rfl) (c_cellK (d + 1) 10 8 k st (by omega) (by decide) rfl) ?_
        rw [(hxs k hk).2]
        rw [show sp_spade n c u (nI k) 1 = (nI (c 4 k)) from by unfold sp_spade; rw [if_pos (nI_in3 (by omega) hk), if_neg (by decide), if_pos rfl, nI_clamp (show k < 2 ^ 31 by omega)]] at hq
        exact w_iret rfl rfl rfl hq
      · by_cases hw2 : w = 2
        · subst hw2
          refine w_tblIn (t := 64) rfl (by decide) (by decide) rfl rfl ?_
          refine w_blk 4 (pc' := 72) (ls' := [some (.ref 0), some (.int (nI k)), some (.int 2)]) (sk' := [.int (nI k), .int (st.1 21 6)]) (st' := st) (fun _ h => h) ?_
          refine w_callS (As := [.int (st.1 21 6), .int (nI k)]) (rest := []) rfl rfl rfl (Nat.le_of_ble_eq_true rfl) (Nat.le_of_ble_eq_true rfl) (c_hasBit (d + 1) (st.1 21 6) (nI k) st) ?_
          refine w_callS (As := [.int (pI (bitP (st.1 21 6) (nI k)))]) (rest := []) rfl rfl rfl (Nat.le_of_ble_eq_true rfl) (Nat.le_of_ble_eq_true rfl) (c_asNumberP (d + 1) _ st) ?_
          rw [show sp_spade n c u (nI k) 2 = (pI (bitP (st.1 21 6) (nI k))) from by unfold sp_spade; rw [if_pos (nI_in3 (by omega) hk), if_neg (by decide), if_neg (by decide), if_pos rfl, nI_clamp (show k < 2 ^ 31 by omega), hu5]; exact (pI_cong (bitP_nI (by omega) (by have := hU; omega))).symm] at hq
          exact w_iret rfl rfl rfl hq
        · refine w_tblOut (t := 79) rfl (tbl_out 2 (by decide) (by intro k hk; rcases (show k = 0 ∨ k = 1 ∨ k = 2 by omega) with rfl | rfl | rfl <;> assumption)) rfl ?_
          refine w_blk 1 (pc' := 80) (ls' := [some (.ref 0), some (.int (nI k)), some (.int w)]) (sk' := [.int (-1)]) (st' := st) (fun _ h => h) ?_
          rw [show (sp_spade n c u (nI k) w) = (-1) from by unfold sp_spade; rw [if_pos (nI_in3 (by omega) hk), if_neg hw0, if_neg hw1, if_neg hw2]] at hq
          exact w_iret rfl rfl rfl hq
  · replace h1 := pI_eq0.mp (Decidable.not_not.mp h1)
    refine w_blk 1 (pc' := 12) (ls' := [some (.ref 0), some (.int x), some (.int w)]) (sk' := [.int (-1)]) (st' := st) (fun _ h => h) ?_
    rw [show (sp_spade n c u x w) = (-1) from if_neg h1] at hq
    exact w_iret rfl rfl rfl hq
set_option maxRecDepth 20000 in
/-- spade -/
theorem x_spade_13 (d : Nat) (n : Nat → Nat) (c : Nat → Nat → Nat) (v : Nat → Int32) (u : Nat → Nat) (yd : Nat) (x w : Int32) (st : mSt) (hcw : st.1 0 1 = nI 13) (hX : X13 st n c) (hB : CB n c) (hN : N21 st v u yd) (hU : u 5 < 256) : mMC mT (d + 3) 89 [.ref 0, .int x, .int w] st (some (.int (sp_spade n c u x w))) st := by
  refine mI_X9_spade (d := d + 2) (Nat.le_of_ble_eq_true rfl) (fun Q hq => ?_)
  show mW (mMC mT (d + 2)) (0, fun _ => 0) (mAtL P_X9_spade) (some .int) Q 0 [some (.ref 0), some (.int x), some (.int w)] [] st
  have hcr : (st.1 0 1).toNatClampNeg = 13 := by rw [hcw]; rfl
  obtain ⟨hn0, hn1, hn2, hxd, hxs, hxy⟩ := id hX
  obtain ⟨hb0, hb1, hb2, hbd, hbs, hby⟩ := id hB
  obtain ⟨hv0, hv1, hv2, hv3, hu3, hu4, hu5, hut, huo⟩ := id hN
  refine w_blk 1 (pc' := 1) (ls' := [some (.ref 0), some (.int x), some (.int w)]) (sk' := [.ref 0]) (st' := st) (fun _ h => h) ?_
  refine w_blk 1 (pc' := 4) (ls' := [some (.ref 0), some (.int x), some (.int w)]) (sk' := [.ref (Int32.toNatClampNeg (st.1 0 1))]) (st' := st) (fun _ h => h) ?_
  rw [hcr]
  refine w_blk 1 (pc' := 5) (ls' := [some (.ref 0), some (.int x), some (.int w)]) (sk' := [.int x, .ref 13]) (st' := st) (fun _ h => h) ?_
  refine w_callV (As := [.ref 13, .int x]) (rest := []) rfl rfl rfl (Nat.le_of_ble_eq_true rfl) (Nat.le_of_ble_eq_true rfl) (by first | exact Or.inl ⟨rfl, rfl⟩ | exact Or.inr ⟨rfl, rfl⟩) (c_hasSpade_13 (d + 1) x st) ?_
  rw [hn1]
  refine w_if_ne rfl (fun h1 => ?_) (fun h1 => ?_)
  · replace h1 := pI_ne.mp h1
    refine w_blk 1 (pc' := 14) (ls' := [some (.ref 0), some (.int x), some (.int w)]) (sk' := [.int w]) (st' := st) (fun _ h => h) ?_
    obtain ⟨k, hk, rfl⟩ := nI_in2 (by omega) h1
    by_cases hw0 : w = 0
    · subst hw0
      refine w_tblIn (t := 40) rfl (by decide) (by decide) rfl rfl ?_
      refine w_blk 1 (pc' := 41) (ls' := [some (.ref 0), some (.int (nI k)), some (.int 0)]) (sk' := [.ref 0]) (st' := st) (fun _ h => h) ?_
      refine w_blk 1 (pc' := 44) (ls' := [some (.ref 0), some (.int (nI k)), some (.int 0)]) (sk' := [.ref (Int32.toNatClampNeg (st.1 0 1))]) (st' := st) (fun _ h => h) ?_
      rw [hcr]
      refine w_blk 2 (pc' := 48) (ls' := [some (.ref 0), some (.int (nI k)), some (.int 0)]) (sk' := [.int (nI k), .ref 17]) (st' := st) (fun _ h => h) ?_
      refine w_callS (As := [.ref 17, .int (nI k)]) (rest := []) rfl rfl rfl (Nat.le_of_ble_eq_true rfl) (Nat.le_of_ble_eq_true rfl) (c_cellK (d + 1) 17 8 k st (by omega) (by decide) rfl) ?_
      rw [(hxs k hk).1]
      rw [show sp_spade n c u (nI k) 0 = (nI (c 3 k)) from by unfold sp_spade; rw [if_pos (nI_in3 (by omega) hk), if_pos rfl, nI_clamp (show k < 2 ^ 31 by omega)]] at hq
      exact w_iret rfl rfl rfl hq
    · by_cases hw1 : w = 1
      · subst hw1
        refine w_tblIn (t := 52) rfl (by decide) (by decide) rfl rfl ?_
        refine w_blk 1 (pc' := 53) (ls' := [some (.ref 0), some (.int (nI k)), some (.int 1)]) (sk' := [.ref 0]) (st' := st) (fun _ h => h) ?_
        refine w_blk 1 (pc' := 56) (ls' := [some (.ref 0), some (.int (nI k)), some (.int 1)]) (sk' := [.ref (Int32.toNatClampNeg (st.1 0 1))]) (st' := st) (fun _ h => h) ?_
        rw [hcr]
        refine w_blk 2 (pc' := 60) (ls' := [some (.ref 0), some (.int (nI k)), some (.int 1)]) (sk' := [.int (nI k), .ref 18]) (st' := st) (fun _ h => h) ?_
        refine w_callS (As := [.ref 18, .int (nI k)]) (rest := []) rfl rfl rfl (Nat.le_of_ble_eq_true rfl) (Nat.le_of_ble_eq_true rfl) (c_cellK (d + 1) 18 8 k st (by omega) (by decide) rfl) ?_
        rw [(hxs k hk).2]
        rw [show sp_spade n c u (nI k) 1 = (nI (c 4 k)) from by unfold sp_spade; rw [if_pos (nI_in3 (by omega) hk), if_neg (by decide), if_pos rfl, nI_clamp (show k < 2 ^ 31 by omega)]] at hq
        exact w_iret rfl rfl rfl hq
      · by_cases hw2 : w = 2
        · subst hw2
          refine w_tblIn (t := 64) rfl (by decide) (by decide) rfl rfl ?_
          refine w_blk 4 (pc' := 72) (ls' := [some (.ref 0), some (.int (nI k)), some (.int 2)]) (sk' := [.int (nI k), .int (st.1 21 6)]) (st' := st) (fun _ h => h) ?_
          refine w_callS (As := [.int (st.1 21 6), .int (nI k)]) (rest := []) rfl rfl rfl (Nat.le_of_ble_eq_true rfl) (Nat.le_of_ble_eq_true rfl) (c_hasBit (d + 1) (st.1 21 6) (nI k) st) ?_
          refine w_callS (As := [.int (pI (bitP (st.1 21 6) (nI k)))]) (rest := []) rfl rfl rfl (Nat.le_of_ble_eq_true rfl) (Nat.le_of_ble_eq_true rfl) (c_asNumberP (d + 1) _ st) ?_
          rw [show sp_spade n c u (nI k) 2 = (pI (bitP (st.1 21 6) (nI k))) from by unfold sp_spade; rw [if_pos (nI_in3 (by omega) hk), if_neg (by decide), if_neg (by decide), if_pos rfl, nI_clamp (show k < 2 ^ 31 by omega), hu5]; exact (pI_cong (bitP_nI (by omega) (by have := hU; omega))).symm] at hq
          exact w_iret rfl rfl rfl hq
        · refine w_tblOut (t := 79) rfl (tbl_out 2 (by decide) (by intro k hk; rcases (show k = 0 ∨ k = 1 ∨ k = 2 by omega) with rfl | rfl | rfl <;> assumption)) rfl ?_
          refine w_blk 1 (pc' := 80) (ls' := [some (.ref 0), some (.int (nI k)), some (.int w)]) (sk' := [.int (-1)]) (st' := st) (fun _ h => h) ?_
          rw [show (sp_spade n c u (nI k) w) = (-1) from by unfold sp_spade; rw [if_pos (nI_in3 (by omega) hk), if_neg hw0, if_neg hw1, if_neg hw2]] at hq
          exact w_iret rfl rfl rfl hq
  · replace h1 := pI_eq0.mp (Decidable.not_not.mp h1)
    refine w_blk 1 (pc' := 12) (ls' := [some (.ref 0), some (.int x), some (.int w)]) (sk' := [.int (-1)]) (st' := st) (fun _ h => h) ?_
    rw [show (sp_spade n c u x w) = (-1) from if_neg h1] at hq
    exact w_iret rfl rfl rfl hq
set_option maxRecDepth 20000 in
/-- yard -/
theorem x_yard_5 (d : Nat) (n : Nat → Nat) (c : Nat → Nat → Nat) (v : Nat → Int32) (u : Nat → Nat) (yd : Nat) (x w : Int32) (st : mSt) (hcw : st.1 0 1 = nI 5) (hX : X5 st n c) (hB : CB n c) (hN : N21 st v u yd) : mMC mT (d + 3) 90 [.ref 0, .int x, .int w] st (some (.int (sp_yard n c u x w))) st := by
  refine mI_X9_yard (d := d + 2) (Nat.le_of_ble_eq_true rfl) (fun Q hq => ?_)
  show mW (mMC mT (d + 2)) (0, fun _ => 0) (mAtL P_X9_yard) (some .int) Q 0 [some (.ref 0), some (.int x), some (.int w)] [] st
  have hcr : (st.1 0 1).toNatClampNeg = 5 := by rw [hcw]; rfl
  obtain ⟨hn0, hn1, hn2, hxd, hxs, hxy⟩ := id hX
  obtain ⟨hb0, hb1, hb2, hbd, hbs, hby⟩ := id hB
  obtain ⟨hv0, hv1, hv2, hv3, hu3, hu4, hu5, hut, huo⟩ := id hN
  refine w_blk 1 (pc' := 1) (ls' := [some (.ref 0), some (.int x), some (.int w)]) (sk' := [.ref 0]) (st' := st) (fun _ h => h) ?_
  refine w_blk 1 (pc' := 4) (ls' := [some (.ref 0), some (.int x), some (.int w)]) (sk' := [.ref (Int32.toNatClampNeg (st.1 0 1))]) (st' := st) (fun _ h => h) ?_
  rw [hcr]
  refine w_blk 1 (pc' := 5) (ls' := [some (.ref 0), some (.int x), some (.int w)]) (sk' := [.int x, .ref 5]) (st' := st) (fun _ h => h) ?_
  refine w_callV (As := [.ref 5, .int x]) (rest := []) rfl rfl rfl (Nat.le_of_ble_eq_true rfl) (Nat.le_of_ble_eq_true rfl) (by first | exact Or.inl ⟨rfl, rfl⟩ | exact Or.inr ⟨rfl, rfl⟩) (c_hasYard_5 (d + 1) x st) ?_
  rw [hn2]
  refine w_if_ne rfl (fun h1 => ?_) (fun h1 => ?_)
  · replace h1 := pI_ne.mp h1
    refine w_blk 1 (pc' := 14) (ls' := [some (.ref 0), some (.int x), some (.int w)]) (sk' := [.int w]) (st' := st) (fun _ h => h) ?_
    obtain ⟨k, hk, rfl⟩ := nI_in2 (by omega) h1
    by_cases hw0 : w = 0
    · subst hw0
      refine w_tblIn (t := 40) rfl (by decide) (by decide) rfl rfl ?_
      refine w_blk 1 (pc' := 41) (ls' := [some (.ref 0), some (.int (nI k)), some (.int 0)]) (sk' := [.ref 0]) (st' := st) (fun _ h => h) ?_
      refine w_blk 1 (pc' := 44) (ls' := [some (.ref 0), some (.int (nI k)), some (.int 0)]) (sk' := [.ref (Int32.toNatClampNeg (st.1 0 1))]) (st' := st) (fun _ h => h) ?_
      rw [hcr]
      refine w_blk 2 (pc' := 48) (ls' := [some (.ref 0), some (.int (nI k)), some (.int 0)]) (sk' := [.int (nI k), .ref 11]) (st' := st) (fun _ h => h) ?_
      refine w_callS (As := [.ref 11, .int (nI k)]) (rest := []) rfl rfl rfl (Nat.le_of_ble_eq_true rfl) (Nat.le_of_ble_eq_true rfl) (c_cellK (d + 1) 11 8 k st (by omega) (by decide) rfl) ?_
      rw [(hxy k hk).1]
      rw [show sp_yard n c u (nI k) 0 = (nI (c 5 k)) from by unfold sp_yard; rw [if_pos (nI_in3 (by omega) hk), if_pos rfl, nI_clamp (show k < 2 ^ 31 by omega)]] at hq
      exact w_iret rfl rfl rfl hq
    · by_cases hw1 : w = 1
      · subst hw1
        refine w_tblIn (t := 52) rfl (by decide) (by decide) rfl rfl ?_
        refine w_blk 1 (pc' := 53) (ls' := [some (.ref 0), some (.int (nI k)), some (.int 1)]) (sk' := [.ref 0]) (st' := st) (fun _ h => h) ?_
        refine w_blk 1 (pc' := 56) (ls' := [some (.ref 0), some (.int (nI k)), some (.int 1)]) (sk' := [.ref (Int32.toNatClampNeg (st.1 0 1))]) (st' := st) (fun _ h => h) ?_
        rw [hcr]
        refine w_blk 2 (pc' := 60) (ls' := [some (.ref 0), some (.int (nI k)), some (.int 1)]) (sk' := [.int (nI k), .ref 12]) (st' := st) (fun _ h => h) ?_
        refine w_callS (As := [.ref 12, .int (nI k)]) (rest := []) rfl rfl rfl (Nat.le_of_ble_eq_true rfl) (Nat.le_of_ble_eq_true rfl) (c_cellK (d + 1) 12 8 k st (by omega) (by decide) rfl) ?_
        rw [(hxy k hk).2]
        rw [show sp_yard n c u (nI k) 1 = (nI (c 6 k)) from by unfold sp_yard; rw [if_pos (nI_in3 (by omega) hk), if_neg (by decide), if_pos rfl, nI_clamp (show k < 2 ^ 31 by omega)]] at hq
        exact w_iret rfl rfl rfl hq
      · by_cases hw2 : w = 2
        · subst hw2
          refine w_tblIn (t := 64) rfl (by decide) (by decide) rfl rfl ?_
          refine w_blk 4 (pc' := 72) (ls' := [some (.ref 0), some (.int (nI k)), some (.int 2)]) (sk' := [.int (nI k), .ref 23]) (st' := st) (fun _ h => h) ?_
          refine w_callS (As := [.ref 23, .int (nI k)]) (rest := []) rfl rfl rfl (Nat.le_of_ble_eq_true rfl) (Nat.le_of_ble_eq_true rfl) (c_cellK (d + 1) 23 8 k st (by omega) (by decide) rfl) ?_
          rw [huo k (by omega)]
          rw [show sp_yard n c u (nI k) 2 = (nI (u (12 + k))) from by unfold sp_yard; rw [if_pos (nI_in3 (by omega) hk), if_neg (by decide), if_neg (by decide), if_pos rfl, nI_clamp (show k < 2 ^ 31 by omega)]] at hq
          exact w_iret rfl rfl rfl hq
        · refine w_tblOut (t := 76) rfl (tbl_out 2 (by decide) (by intro k hk; rcases (show k = 0 ∨ k = 1 ∨ k = 2 by omega) with rfl | rfl | rfl <;> assumption)) rfl ?_
          refine w_blk 1 (pc' := 77) (ls' := [some (.ref 0), some (.int (nI k)), some (.int w)]) (sk' := [.int (-1)]) (st' := st) (fun _ h => h) ?_
          rw [show (sp_yard n c u (nI k) w) = (-1) from by unfold sp_yard; rw [if_pos (nI_in3 (by omega) hk), if_neg hw0, if_neg hw1, if_neg hw2]] at hq
          exact w_iret rfl rfl rfl hq
  · replace h1 := pI_eq0.mp (Decidable.not_not.mp h1)
    refine w_blk 1 (pc' := 12) (ls' := [some (.ref 0), some (.int x), some (.int w)]) (sk' := [.int (-1)]) (st' := st) (fun _ h => h) ?_
    rw [show (sp_yard n c u x w) = (-1) from if_neg h1] at hq
    exact w_iret rfl rfl rfl hq
set_option maxRecDepth 20000 in
/-- yard -/
theorem x_yard_13 (d : Nat) (n : Nat → Nat) (c : Nat → Nat → Nat) (v : Nat → Int32) (u : Nat → Nat) (yd : Nat) (x w : Int32) (st : mSt) (hcw : st.1 0 1 = nI 13) (hX : X13 st n c) (hB : CB n c) (hN : N21 st v u yd) : mMC mT (d + 3) 90 [.ref 0, .int x, .int w] st (some (.int (sp_yard n c u x w))) st := by
  refine mI_X9_yard (d := d + 2) (Nat.le_of_ble_eq_true rfl) (fun Q hq => ?_)
  show mW (mMC mT (d + 2)) (0, fun _ => 0) (mAtL P_X9_yard) (some .int) Q 0 [some (.ref 0), some (.int x), some (.int w)] [] st
  have hcr : (st.1 0 1).toNatClampNeg = 13 := by rw [hcw]; rfl
  obtain ⟨hn0, hn1, hn2, hxd, hxs, hxy⟩ := id hX
  obtain ⟨hb0, hb1, hb2, hbd, hbs, hby⟩ := id hB
  obtain ⟨hv0, hv1, hv2, hv3, hu3, hu4, hu5, hut, huo⟩ := id hN
  refine w_blk 1 (pc' := 1) (ls' := [some (.ref 0), some (.int x), some (.int w)]) (sk' := [.ref 0]) (st' := st) (fun _ h => h) ?_
  refine w_blk 1 (pc' := 4) (ls' := [some (.ref 0), some (.int x), some (.int w)]) (sk' := [.ref (Int32.toNatClampNeg (st.1 0 1))]) (st' := st) (fun _ h => h) ?_
  rw [hcr]
  refine w_blk 1 (pc' := 5) (ls' := [some (.ref 0), some (.int x), some (.int w)]) (sk' := [.int x, .ref 13]) (st' := st) (fun _ h => h) ?_
  refine w_callV (As := [.ref 13, .int x]) (rest := []) rfl rfl rfl (Nat.le_of_ble_eq_true rfl) (Nat.le_of_ble_eq_true rfl) (by first | exact Or.inl ⟨rfl, rfl⟩ | exact Or.inr ⟨rfl, rfl⟩) (c_hasYard_13 (d + 1) x st) ?_
  rw [hn2]
  refine w_if_ne rfl (fun h1 => ?_) (fun h1 => ?_)
  · replace h1 := pI_ne.mp h1
    refine w_blk 1 (pc' := 14) (ls' := [some (.ref 0), some (.int x), some (.int w)]) (sk' := [.int w]) (st' := st) (fun _ h => h) ?_
    obtain ⟨k, hk, rfl⟩ := nI_in2 (by omega) h1
    by_cases hw0 : w = 0
    · subst hw0
      refine w_tblIn (t := 40) rfl (by decide) (by decide) rfl rfl ?_
      refine w_blk 1 (pc' := 41) (ls' := [some (.ref 0), some (.int (nI k)), some (.int 0)]) (sk' := [.ref 0]) (st' := st) (fun _ h => h) ?_
      refine w_blk 1 (pc' := 44) (ls' := [some (.ref 0), some (.int (nI k)), some (.int 0)]) (sk' := [.ref (Int32.toNatClampNeg (st.1 0 1))]) (st' := st) (fun _ h => h) ?_
      rw [hcr]
      refine w_blk 2 (pc' := 48) (ls' := [some (.ref 0), some (.int (nI k)), some (.int 0)]) (sk' := [.int (nI k), .ref 19]) (st' := st) (fun _ h => h) ?_
      refine w_callS (As := [.ref 19, .int (nI k)]) (rest := []) rfl rfl rfl (Nat.le_of_ble_eq_true rfl) (Nat.le_of_ble_eq_true rfl) (c_cellK (d + 1) 19 8 k st (by omega) (by decide) rfl) ?_
      rw [(hxy k hk).1]
      rw [show sp_yard n c u (nI k) 0 = (nI (c 5 k)) from by unfold sp_yard; rw [if_pos (nI_in3 (by omega) hk), if_pos rfl, nI_clamp (show k < 2 ^ 31 by omega)]] at hq
      exact w_iret rfl rfl rfl hq
    · by_cases hw1 : w = 1
      · subst hw1
        refine w_tblIn (t := 52) rfl (by decide) (by decide) rfl rfl ?_
        refine w_blk 1 (pc' := 53) (ls' := [some (.ref 0), some (.int (nI k)), some (.int 1)]) (sk' := [.ref 0]) (st' := st) (fun _ h => h) ?_
        refine w_blk 1 (pc' := 56) (ls' := [some (.ref 0), some (.int (nI k)), some (.int 1)]) (sk' := [.ref (Int32.toNatClampNeg (st.1 0 1))]) (st' := st) (fun _ h => h) ?_
        rw [hcr]
        refine w_blk 2 (pc' := 60) (ls' := [some (.ref 0), some (.int (nI k)), some (.int 1)]) (sk' := [.int (nI k), .ref 20]) (st' := st) (fun _ h => h) ?_
        refine w_callS (As := [.ref 20, .int (nI k)]) (rest := []) rfl rfl rfl (Nat.le_of_ble_eq_true rfl) (Nat.le_of_ble_eq_true rfl) (c_cellK (d + 1) 20 8 k st (by omega) (by decide) rfl) ?_
        rw [(hxy k hk).2]
        rw [show sp_yard n c u (nI k) 1 = (nI (c 6 k)) from by unfold sp_yard; rw [if_pos (nI_in3 (by omega) hk), if_neg (by decide), if_pos rfl, nI_clamp (show k < 2 ^ 31 by omega)]] at hq
        exact w_iret rfl rfl rfl hq
      · by_cases hw2 : w = 2
        · subst hw2
          refine w_tblIn (t := 64) rfl (by decide) (by decide) rfl rfl ?_
          refine w_blk 4 (pc' := 72) (ls' := [some (.ref 0), some (.int (nI k)), some (.int 2)]) (sk' := [.int (nI k), .ref 23]) (st' := st) (fun _ h => h) ?_
          refine w_callS (As := [.ref 23, .int (nI k)]) (rest := []) rfl rfl rfl (Nat.le_of_ble_eq_true rfl) (Nat.le_of_ble_eq_true rfl) (c_cellK (d + 1) 23 8 k st (by omega) (by decide) rfl) ?_
          rw [huo k (by omega)]
          rw [show sp_yard n c u (nI k) 2 = (nI (u (12 + k))) from by unfold sp_yard; rw [if_pos (nI_in3 (by omega) hk), if_neg (by decide), if_neg (by decide), if_pos rfl, nI_clamp (show k < 2 ^ 31 by omega)]] at hq
          exact w_iret rfl rfl rfl hq
        · refine w_tblOut (t := 76) rfl (tbl_out 2 (by decide) (by intro k hk; rcases (show k = 0 ∨ k = 1 ∨ k = 2 by omega) with rfl | rfl | rfl <;> assumption)) rfl ?_
          refine w_blk 1 (pc' := 77) (ls' := [some (.ref 0), some (.int (nI k)), some (.int w)]) (sk' := [.int (-1)]) (st' := st) (fun _ h => h) ?_
          rw [show (sp_yard n c u (nI k) w) = (-1) from by unfold sp_yard; rw [if_pos (nI_in3 (by omega) hk), if_neg hw0, if_neg hw1, if_neg hw2]] at hq
          exact w_iret rfl rfl rfl hq
  · replace h1 := pI_eq0.mp (Decidable.not_not.mp h1)
    refine w_blk 1 (pc' := 12) (ls' := [some (.ref 0), some (.int x), some (.int w)]) (sk' := [.int (-1)]) (st' := st) (fun _ h => h) ?_
    rw [show (sp_yard n c u x w) = (-1) from if_neg h1] at hq
    exact w_iret rfl rfl rfl hq
