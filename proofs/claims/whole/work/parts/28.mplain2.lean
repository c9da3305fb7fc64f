/-! PLAIN CALLS of the model, 2: rounds, throws, images, marks, holes, told ones -/
set_option maxRecDepth 20000 in
/-- may -/
theorem m_may (d : Nat) (n : Nat → Nat) (c : Nat → Nat → Nat) (v : Nat → Int32) (u : Nat → Nat) (x y : Int32) (st : mSt) (hR : MR st n c) (hM : NM0 st v u) (hB : CB n c) (hU : ∀ j, 3 ≤ j → j < 12 → u j < 256) : mMC mT (d + 3) 148 [.ref 53, .int x, .int y] st (some (.int (sp_may n c u x y))) st := by
  refine mI_X10_may (d := d + 2) (Nat.le_of_ble_eq_true rfl) (fun Q hq => ?_)
  show mW (mMC mT (d + 2)) (0, fun _ => 0) (mAtL P_X10_may) (some .int) Q 0 [some (.ref 53), some (.int x), some (.int y)] [] st
  obtain ⟨hb0, hb1, hb2, hbd, hbs, hby⟩ := id hB
  refine w_blk 2 (pc' := 2) (ls' := [some (.ref 53), some (.int x), some (.int y)]) (sk' := [.int x, .ref 53]) (st' := st) (fun _ h => h) ?_
  refine w_callV (As := [.ref 53, .int x]) (rest := []) rfl rfl rfl (Nat.le_of_ble_eq_true rfl) (Nat.le_of_ble_eq_true rfl) (by first | exact Or.inl ⟨rfl, rfl⟩ | exact Or.inr ⟨rfl, rfl⟩) (m_isDigger (d + 0) n c x st hR hB) ?_
  refine w_if_eq rfl (fun h1 => ?_) (fun h1 => ?_)
  · replace h1 := pI_eq0.mp h1
    refine w_blk 1 (pc' := 34) (ls' := [some (.ref 53), some (.int x), some (.int y)]) (sk' := [.int (-1)]) (st' := st) (fun _ h => h) ?_
    rw [show sp_may n c u x y = (-1) from if_neg h1] at hq
    exact w_iret rfl rfl rfl hq
  · replace h1 := pI_ne.mp h1
    obtain ⟨k, hk, rfl⟩ := nI_in2 (by omega) h1
    have hok : ok0 n (nI k) := nI_in3 (by omega) hk
    refine w_blk 2 (pc' := 10) (ls' := [some (.ref 53), some (.int (nI k)), some (.int y)]) (sk' := [.int y, .ref 53]) (st' := st) (fun _ h => h) ?_
    refine w_callV (As := [.ref 53, .int y]) (rest := []) rfl rfl rfl (Nat.le_of_ble_eq_true rfl) (Nat.le_of_ble_eq_true rfl) (by first | exact Or.inl ⟨rfl, rfl⟩ | exact Or.inr ⟨rfl, rfl⟩) (m_isSpade (d + 0) n c y st hR hB) ?_
    refine w_if_eq rfl (fun h2 => ?_) (fun h2 => ?_)
    · replace h2 := pI_eq0.mp h2
      refine w_blk 1 (pc' := 34) (ls' := [some (.ref 53), some (.int (nI k)), some (.int y)]) (sk' := [.int (-1)]) (st' := st) (fun _ h => h) ?_
      rw [show sp_may n c u (nI k) y = (-1) from by unfold sp_may; rw [if_pos hok, if_neg h2]] at hq
      exact w_iret rfl rfl rfl hq
    · replace h2 := pI_ne.mp h2
      obtain ⟨j, hj, rfl⟩ := nI_in2 (by omega) h2
      have hok2 : ok1 n (nI j) := nI_in3 (by omega) hj
      refine w_blk 3 (pc' := 19) (ls' := [some (.ref 53), some (.int (nI k)), some (.int (nI j))]) (sk' := [.int (nI j), .int (nI k), .ref 53]) (st' := st) (fun _ h => h) ?_
      refine w_callV (As := [.ref 53, .int (nI k), .int (nI j)]) (rest := []) rfl rfl rfl (Nat.le_of_ble_eq_true rfl) (Nat.le_of_ble_eq_true rfl) (by first | exact Or.inl ⟨rfl, rfl⟩ | exact Or.inr ⟨rfl, rfl⟩) (m_mayNow (d + 1) n c v u k j st hR hM hB hU (by omega) (by omega)) ?_
      refine w_if_eq rfl (fun h3 => ?_) (fun h3 => ?_)
      · replace h3 := pI_eq0.mp h3
        refine w_blk 2 (pc' := 34) (ls' := [some (.ref 53), some (.int (nI k)), some (.int (nI j))]) (sk' := [.int 0]) (st' := st) (fun _ h => h) ?_
        rw [show sp_may n c u (nI k) (nI j) = 0 from by unfold sp_may; rw [if_pos hok, if_pos hok2, nI_clamp (show k < 2 ^ 31 by omega), nI_clamp (show j < 2 ^ 31 by omega)]; exact pI_f h3] at hq
        exact w_iret rfl rfl rfl hq
      · replace h3 := pI_ne.mp h3
        refine w_blk 2 (pc' := 34) (ls' := [some (.ref 53), some (.int (nI k)), some (.int (nI j))]) (sk' := [.int 1]) (st' := st) (fun _ h => h) ?_
        rw [show sp_may n c u (nI k) (nI j) = 1 from by unfold sp_may; rw [if_pos hok, if_pos hok2, nI_clamp (show k < 2 ^ 31 by omega), nI_clamp (show j < 2 ^ 31 by omega)]; exact pI_t h3] at hq
        exact w_iret rfl rfl rfl hq
set_option maxRecDepth 20000 in
/-- yardNow() -/
theorem m_yardNow (d : Nat) (n : Nat → Nat) (c : Nat → Nat → Nat) (v : Nat → Int32) (u : Nat → Nat) (yd : Nat) (st : mSt) (hR : MR st n c) (hM : NM0 st v u) (hB : CB n c) (hyd : yd ≤ n 2) (hyb : yd < n 2 → u (12 + yd) < c 5 yd) (hyc : ∀ y, y < yd → u (12 + y) = c 5 y) : mMC mT (d + 1) 149 [.ref 53] st (some (.int (nI yd))) st := by
  refine mI_X10_yardNow (d := d + 0) (Nat.le_of_ble_eq_true rfl) (fun Q hq => ?_)
  show mW (mMC mT (d + 0)) (0, fun _ => 0) (mAtL P_X10_yardNow) (some .int) Q 0 [some (.ref 53), none] [] st
  obtain ⟨hb0, hb1, hb2, hbd, hbs, hby⟩ := id hB
  refine w_blk 2 (pc' := 2) (ls' := [some (.ref 53), some (.int 0)]) (sk' := []) (st' := st) (fun _ h => h) ?_
  have key : ∀ (m k : Nat), k + m = yd → mW (mMC mT (d + 0)) (0, fun _ => 0) (mAtL P_X10_yardNow) (some .int) Q 2 [some (.ref 53), some (.int (nI k))] [] st := by
    intro m
    induction m with
    | zero =>
      intro k hk
      obtain rfl : yd = k := by omega
      refine w_blk 4 (pc' := 8) (ls' := [some (.ref 53), some (.int (nI yd))]) (sk' := [.int 0, .ref 62, .int (nI yd)]) (st' := st) (fun _ h => h) ?_
      refine w_iald rfl rfl (vp_in_nI (n := 0) (N := 2) (by decide) (by decide)) ?_
      rw [show Int32.toNatClampNeg (0 : Int32) = 0 from rfl]
      rw [hR.2.2.1]
      refine w_cmp_ge rfl (fun h1 => ?_) (fun h1 => ?_)
      · replace h1 : n 2 ≤ yd := (nI_leI (a := (n 2)) (b := yd) (by omega) (by omega)).mp h1
        refine w_blk 1 (pc' := 37) (ls' := [some (.ref 53), some (.int (nI yd))]) (sk' := [.int (nI yd)]) (st' := st) (fun _ h => h) ?_
        exact w_iret rfl rfl rfl hq
      · replace h1 : ¬ (n 2 ≤ yd) := fun hh => h1 ((nI_leI (a := (n 2)) (b := yd) (by omega) (by omega)).mpr hh)
        have hz := hyb (by omega)
        have hz2 := (hby yd (by omega)).2.1
        refine w_blk 5 (pc' := 20) (ls' := [some (.ref 53), some (.int (nI yd))]) (sk' := [.int (12 + (nI yd)), .ref 65]) (st' := st) (fun _ h => h) ?_
        rw [show (12 + (nI yd)) = nI (12 + yd) from nI_add 12 yd]
        refine w_iald rfl rfl (vp_in_nI (n := (12 + yd)) (N := 60) (by omega) (by decide)) ?_
        rw [nI_clamp (show (12 + yd) < 2 ^ 31 by omega)]
        rw [hM.2 (12 + yd) (by omega) (by omega)]
        refine w_blk 3 (pc' := 26) (ls' := [some (.ref 53), some (.int (nI yd))]) (sk' := [.int (nI yd), .ref 63, .int (nI (u (12 + yd)))]) (st' := st) (fun _ h => h) ?_
        refine w_iald rfl rfl (vp_in_nI (n := yd) (N := 16) (by omega) (by decide)) ?_
        rw [nI_clamp (show yd < 2 ^ 31 by omega)]
        rw [(hR.2.2.2.2.2 yd (by omega)).1]
        refine w_cmp_ne rfl (fun h2 => ?_) (fun h2 => ?_)
        · replace h2 : ¬ (u (12 + yd) = c 5 yd) := fun hh => h2 ((nI_eq (a := (u (12 + yd))) (b := (c 5 yd)) (by omega) (by omega)).mpr hh)
          refine w_blk 1 (pc' := 37) (ls' := [some (.ref 53), some (.int (nI yd))]) (sk' := [.int (nI yd)]) (st' := st) (fun _ h => h) ?_
          exact w_iret rfl rfl rfl hq
        · replace h2 : u (12 + yd) = c 5 yd := (nI_eq (a := (u (12 + yd))) (b := (c 5 yd)) (by omega) (by omega)).mp (Decidable.not_not.mp h2)
          exact absurd h2 (by omega)
    | succ m ih =>
      intro k hk
      refine w_blk 4 (pc' := 8) (ls' := [some (.ref 53), some (.int (nI k))]) (sk' := [.int 0, .ref 62, .int (nI k)]) (st' := st) (fun _ h => h) ?_
      refine w_iald rfl rfl (vp_in_nI (n := 0) (N := 2) (by decide) (by decide)) ?_
      rw [show Int32.toNatClampNeg (0 : Int32) = 0 from rfl]
      rw [hR.2.2.1]
      refine w_cmp_ge rfl (fun hno => absurd hno (nI_ge (show k < n 2 by omega) (by omega))) (fun _ => ?_)
      have hz := hyc k (by omega)
      have hz2 := (hby k (by omega)).2.1
      refine w_blk 5 (pc' := 20) (ls' := [some (.ref 53), some (.int (nI k))]) (sk' := [.int (12 + (nI k)), .ref 65]) (st' := st) (fun _ h => h) ?_
      rw [show (12 + (nI k)) = nI (12 + k) from nI_add 12 k]
      refine w_iald rfl rfl (vp_in_nI (n := (12 + k)) (N := 60) (by omega) (by decide)) ?_
      rw [nI_clamp (show (12 + k) < 2 ^ 31 by omega)]
      rw [hM.2 (12 + k) (by omega) (by omega)]
      refine w_blk 3 (pc' := 26) (ls' := [some (.ref 53), some (.int (nI k))]) (sk' := [.int (nI k), .ref 63, .int (nI (u (12 + k)))]) (st' := st) (fun _ h => h) ?_
      refine w_iald rfl rfl (vp_in_nI (n := k) (N := 16) (by omega) (by decide)) ?_
      rw [nI_clamp (show k < 2 ^ 31 by omega)]
      rw [(hR.2.2.2.2.2 k (by omega)).1]
      refine w_cmp_ne rfl (fun hno => absurd hno (fun hh => hh (congrArg nI hz))) (fun _ => ?_)
      refine w_blk 1 (pc' := 33) (ls' := [some (.ref 53), some (.int ((nI k) + 1))]) (sk' := []) (st' := st) (fun _ h => h) ?_
      rw [show ((nI k) + 1) = nI (k + 1) from nI_add k 1]
      refine w_blk 1 (pc' := 2) (ls' := [some (.ref 53), some (.int (nI (k + 1)))]) (sk' := []) (st' := st) (fun _ h => h) ?_
      exact ih (k + 1) (by omega)
  exact key (yd - 0) 0 (by omega)
set_option maxRecDepth 20000 in
/-- now -/
theorem m_now (d : Nat) (n : Nat → Nat) (c : Nat → Nat → Nat) (v : Nat → Int32) (u : Nat → Nat) (yd : Nat) (w : Int32) (st : mSt) (hR : MR st n c) (hM : NM0 st v u) (hB : CB n c) (hyd : yd ≤ n 2) (hyb : yd < n 2 → u (12 + yd) < c 5 yd) (hyc : ∀ y, y < yd → u (12 + y) = c 5 y) : mMC mT (d + 2) 153 [.ref 53, .int w] st (some (.int (sp_now v u yd w))) st := by
  refine mI_X10_now (d := d + 1) (Nat.le_of_ble_eq_true rfl) (fun Q hq => ?_)
  show mW (mMC mT (d + 1)) (0, fun _ => 0) (mAtL P_X10_now) (some .int) Q 0 [some (.ref 53), some (.int w)] [] st
  refine w_blk 1 (pc' := 1) (ls' := [some (.ref 53), some (.int w)]) (sk' := [.int w]) (st' := st) (fun _ h => h) ?_
  by_cases hw0 : w = 0
  · subst hw0
    refine w_tblIn (t := 40) rfl (by decide) (by decide) rfl rfl ?_
    refine w_blk 3 (pc' := 45) (ls' := [some (.ref 53), some (.int 0)]) (sk' := [.int 0, .ref 65]) (st' := st) (fun _ h => h) ?_
    refine w_iald rfl rfl (vp_in_nI (n := 0) (N := 60) (by decide) (by decide)) ?_
    rw [show Int32.toNatClampNeg (0 : Int32) = 0 from rfl]
    rw [hM.1 0 (by omega)]
    rw [show sp_now v u yd 0 = (v 0) from if_pos rfl] at hq
    exact w_iret rfl rfl rfl hq
  · by_cases hw1 : w = 1
    · subst hw1
      refine w_tblIn (t := 47) rfl (by decide) (by decide) rfl rfl ?_
      refine w_blk 3 (pc' := 52) (ls' := [some (.ref 53), some (.int 1)]) (sk' := [.int 1, .ref 65]) (st' := st) (fun _ h => h) ?_
      refine w_iald rfl rfl (vp_in_nI (n := 1) (N := 60) (by decide) (by decide)) ?_
      rw [show Int32.toNatClampNeg (1 : Int32) = 1 from rfl]
      rw [hM.1 1 (by omega)]
      rw [show sp_now v u yd 1 = (v 1) from (if_neg (by decide)).trans <| if_pos rfl] at hq
      exact w_iret rfl rfl rfl hq
    · by_cases hw2 : w = 2
      · subst hw2
        refine w_tblIn (t := 54) rfl (by decide) (by decide) rfl rfl ?_
        refine w_blk 3 (pc' := 59) (ls' := [some (.ref 53), some (.int 2)]) (sk' := [.int 2, .ref 65]) (st' := st) (fun _ h => h) ?_
        refine w_iald rfl rfl (vp_in_nI (n := 2) (N := 60) (by decide) (by decide)) ?_
        rw [show Int32.toNatClampNeg (2 : Int32) = 2 from rfl]
        rw [hM.1 2 (by omega)]
        rw [show sp_now v u yd 2 = (v 2) from (if_neg (by decide)).trans <| (if_neg (by decide)).trans <| if_pos rfl] at hq
        exact w_iret rfl rfl rfl hq
      · by_cases hw3 : w = 3
        · subst hw3
          refine w_tblIn (t := 61) rfl (by decide) (by decide) rfl rfl ?_
          refine w_blk 1 (pc' := 62) (ls' := [some (.ref 53), some (.int 3)]) (sk' := [.ref 53]) (st' := st) (fun _ h => h) ?_
          refine w_callV (As := [.ref 53]) (rest := []) rfl rfl rfl (Nat.le_of_ble_eq_true rfl) (Nat.le_of_ble_eq_true rfl) (by first | exact Or.inl ⟨rfl, rfl⟩ | exact Or.inr ⟨rfl, rfl⟩) (m_yardNow (d + 0) n c v u yd st hR hM hB hyd hyb hyc) ?_
          rw [show sp_now v u yd 3 = (nI yd) from (if_neg (by decide)).trans <| (if_neg (by decide)).trans <| (if_neg (by decide)).trans <| if_pos rfl] at hq
          exact w_iret rfl rfl rfl hq
        · by_cases hw4 : w = 4
          · subst hw4
            refine w_tblIn (t := 66) rfl (by decide) (by decide) rfl rfl ?_
            refine w_blk 3 (pc' := 71) (ls' := [some (.ref 53), some (.int 4)]) (sk' := [.int 3, .ref 65]) (st' := st) (fun _ h => h) ?_
            refine w_iald rfl rfl (vp_in_nI (n := 3) (N := 60) (by decide) (by decide)) ?_
            rw [show Int32.toNatClampNeg (3 : Int32) = 3 from rfl]
            rw [hM.2 3 (by omega) (by omega)]
            rw [show sp_now v u yd 4 = (nI (u 3)) from (if_neg (by decide)).trans <| (if_neg (by decide)).trans <| (if_neg (by decide)).trans <| (if_neg (by decide)).trans <| if_pos rfl] at hq
            exact w_iret rfl rfl rfl hq
          · by_cases hw5 : w = 5
            · subst hw5
              refine w_tblIn (t := 73) rfl (by decide) (by decide) rfl rfl ?_
              refine w_blk 3 (pc' := 78) (ls' := [some (.ref 53), some (.int 5)]) (sk' := [.int 4, .ref 65]) (st' := st) (fun _ h => h) ?_
              refine w_iald rfl rfl (vp_in_nI (n := 4) (N := 60) (by decide) (by decide)) ?_
              rw [show Int32.toNatClampNeg (4 : Int32) = 4 from rfl]
              rw [hM.2 4 (by omega) (by omega)]
              rw [show sp_now v u yd 5 = (nI (u 4)) from (if_neg (by decide)).trans <| (if_neg (by decide)).trans <| (if_neg (by decide)).trans <| (if_neg (by decide)).trans <| (if_neg (by decide)).trans <| if_pos rfl] at hq
              exact w_iret rfl rfl rfl hq
            · refine w_tblOut (t := 80) rfl (tbl_out 5 (by decide) (by intro k hk; rcases (show k = 0 ∨ k = 1 ∨ k = 2 ∨ k = 3 ∨ k = 4 ∨ k = 5 by omega) with rfl | rfl | rfl | rfl | rfl | rfl <;> assumption)) rfl ?_
              rw [show sp_now v u yd w = -1 from ((((((if_neg hw0).trans (if_neg hw1)).trans (if_neg hw2)).trans (if_neg hw3)).trans (if_neg hw4)).trans (if_neg hw5))] at hq
              refine w_blk 1 (pc' := 81) (ls' := [some (.ref 53), some (.int w)]) (sk' := [.int (-1)]) (st' := st) (fun _ h => h) ?_
              exact w_iret rfl rfl rfl hq
set_option maxRecDepth 20000 in
/-- count -/
theorem m_count (d : Nat) (n : Nat → Nat) (c : Nat → Nat → Nat) (a b l : Nat) (w : Int32) (st : mSt) (hR : MR st n c) (ha : st.1 53 33 = nI a) (hb : st.1 53 38 = nI b) (hl : st.1 53 2 = nI l) : mMC mT (d + 1) 188 [.ref 53, .int w] st (some (.int (sp_count n a b l w))) st := by
  refine mI_X10_count (d := d + 0) (Nat.le_of_ble_eq_true rfl) (fun Q hq => ?_)
  show mW (mMC mT (d + 0)) (0, fun _ => 0) (mAtL P_X10_count) (some .int) Q 0 [some (.ref 53), some (.int w)] [] st
  refine w_blk 1 (pc' := 1) (ls' := [some (.ref 53), some (.int w)]) (sk' := [.int w]) (st' := st) (fun _ h => h) ?_
  by_cases hw0 : w = 0
  · subst hw0
    refine w_tblIn (t := 40) rfl (by decide) (by decide) rfl rfl ?_
    refine w_blk 3 (pc' := 45) (ls' := [some (.ref 53), some (.int 0)]) (sk' := [.int 0, .ref 55]) (st' := st) (fun _ h => h) ?_
    refine w_iald rfl rfl (vp_in_nI (n := 0) (N := 2) (by decide) (by decide)) ?_
    rw [show Int32.toNatClampNeg (0 : Int32) = 0 from rfl]
    rw [hR.1]
    rw [show sp_count n a b l 0 = (nI (n 0)) from if_pos rfl] at hq
    exact w_iret rfl rfl rfl hq
  · by_cases hw1 : w = 1
    · subst hw1
      refine w_tblIn (t := 47) rfl (by decide) (by decide) rfl rfl ?_
      refine w_blk 3 (pc' := 52) (ls' := [some (.ref 53), some (.int 1)]) (sk' := [.int 0, .ref 59]) (st' := st) (fun _ h => h) ?_
      refine w_iald rfl rfl (vp_in_nI (n := 0) (N := 2) (by decide) (by decide)) ?_
      rw [show Int32.toNatClampNeg (0 : Int32) = 0 from rfl]
      rw [hR.2.1]
      rw [show sp_count n a b l 1 = (nI (n 1)) from (if_neg (by decide)).trans <| if_pos rfl] at hq
      exact w_iret rfl rfl rfl hq
    · by_cases hw2 : w = 2
      · subst hw2
        refine w_tblIn (t := 54) rfl (by decide) (by decide) rfl rfl ?_
        refine w_blk 3 (pc' := 59) (ls' := [some (.ref 53), some (.int 2)]) (sk' := [.int 0, .ref 62]) (st' := st) (fun _ h => h) ?_
        refine w_iald rfl rfl (vp_in_nI (n := 0) (N := 2) (by decide) (by decide)) ?_
        rw [show Int32.toNatClampNeg (0 : Int32) = 0 from rfl]
        rw [hR.2.2.1]
        rw [show sp_count n a b l 2 = (nI (n 2)) from (if_neg (by decide)).trans <| (if_neg (by decide)).trans <| if_pos rfl] at hq
        exact w_iret rfl rfl rfl hq
      · by_cases hw3 : w = 3
        · subst hw3
          refine w_tblIn (t := 61) rfl (by decide) (by decide) rfl rfl ?_
          refine w_blk 2 (pc' := 65) (ls' := [some (.ref 53), some (.int 3)]) (sk' := [.int (st.1 53 33)]) (st' := st) (fun _ h => h) ?_
          rw [ha]
          rw [show sp_count n a b l 3 = (nI a) from (if_neg (by decide)).trans <| (if_neg (by decide)).trans <| (if_neg (by decide)).trans <| if_pos rfl] at hq
          exact w_iret rfl rfl rfl hq
        · by_cases hw4 : w = 4
          · subst hw4
            refine w_tblIn (t := 66) rfl (by decide) (by decide) rfl rfl ?_
            refine w_blk 2 (pc' := 70) (ls' := [some (.ref 53), some (.int 4)]) (sk' := [.int (st.1 53 38)]) (st' := st) (fun _ h => h) ?_
            rw [hb]
            rw [show sp_count n a b l 4 = (nI b) from (if_neg (by decide)).trans <| (if_neg (by decide)).trans <| (if_neg (by decide)).trans <| (if_neg (by decide)).trans <| if_pos rfl] at hq
            exact w_iret rfl rfl rfl hq
          · by_cases hw5 : w = 5
            · subst hw5
              refine w_tblIn (t := 71) rfl (by decide) (by decide) rfl rfl ?_
              refine w_blk 2 (pc' := 75) (ls' := [some (.ref 53), some (.int 5)]) (sk' := [.int (st.1 53 2)]) (st' := st) (fun _ h => h) ?_
              rw [hl]
              rw [show sp_count n a b l 5 = (nI l) from (if_neg (by decide)).trans <| (if_neg (by decide)).trans <| (if_neg (by decide)).trans <| (if_neg (by decide)).trans <| (if_neg (by decide)).trans <| if_pos rfl] at hq
              exact w_iret rfl rfl rfl hq
            · refine w_tblOut (t := 76) rfl (tbl_out 5 (by decide) (by intro k hk; rcases (show k = 0 ∨ k = 1 ∨ k = 2 ∨ k = 3 ∨ k = 4 ∨ k = 5 by omega) with rfl | rfl | rfl | rfl | rfl | rfl <;> assumption)) rfl ?_
              rw [show sp_count n a b l w = -1 from ((((((if_neg hw0).trans (if_neg hw1)).trans (if_neg hw2)).trans (if_neg hw3)).trans (if_neg hw4)).trans (if_neg hw5))] at hq
              refine w_blk 1 (pc' := 77) (ls' := [some (.ref 53), some (.int w)]) (sk' := [.int (-1)]) (st' := st) (fun _ h => h) ?_
              exact w_iret rfl rfl rfl hq
theorem updI_comm {u : Nat → Int32} {i j : Nat} {a b : Int32} (h : i ≠ j) : updI (updI u i a) j b = updI (updI u j b) i a := by
  funext k
  unfold updI
  by_cases h1 : k = j
  · rw [if_pos h1, if_neg (show ¬ k = i by omega), if_pos h1]
  · rw [if_neg h1]
    by_cases h2 : k = i
    · rw [if_pos h2, if_pos h2]
    · rw [if_neg h2, if_neg h2, if_neg h1]
set_option maxRecDepth 20000 in
/-- ends -/
theorem m_ends (d : Nat) (n : Nat → Nat) (c : Nat → Nat → Nat) (v : Nat → Int32) (u : Nat → Nat)  (st : mSt) (hR : MR st n c) (hM : NM0 st v u) (hB : CB n c) (hU : ∀ j, 3 ≤ j → j < 12 → u j < 256) : ∃ (s : mSt), mMC mT (d + 1) 151 [.ref 53] st (some (.int (nI (slow (c 1) (u 3) (n 0))))) s ∧ NM0 s (en_v n c v u) (en_u u) ∧ Fr [65] st s := by
  suffices H : ∀ Q : Option Value → mSt → Prop, (∀ (s : mSt), (NM0 s (en_v n c v u) (en_u u) ∧ Fr [65] st s) → Q (some (.int (nI (slow (c 1) (u 3) (n 0))))) s) → mW (mMC mT (d + 0)) (0, fun _ => 0) (mAtL P_X10_ends) (some .int) Q 0 [some (.ref 53), none, none] [] st by
    obtain ⟨_, _, ⟨s, rfl, rfl, hp⟩, hw⟩ := mW_ex (H (fun vv tt => ∃ (s : mSt),  vv = some (.int (nI (slow (c 1) (u 3) (n 0)))) ∧ s = tt ∧ NM0 s (en_v n c v u) (en_u u) ∧ Fr [65] st s) (fun s hp => ⟨s, rfl, rfl, hp⟩))
    exact ⟨s, mI_X10_ends (d := d + 0) (Nat.le_of_ble_eq_true rfl) hw, hp⟩
  intro Q hq
  obtain ⟨hb0, hb1, hb2, hbd, hbs, hby⟩ := id hB
  refine w_blk 4 (pc' := 4) (ls' := [some (.ref 53), some (.int 0), some (.int 0)]) (sk' := []) (st' := st) (fun _ h => h) ?_
  have h3 := hU 3 (by omega) (by omega)
  have hsl : ∀ k, k ≤ n 0 → slow (c 1) (u 3) k ≤ 9 := fun k hk => slow_le k (fun i hi => (hbd i (by omega)).2.2.2.1)
  have key : ∀ (m k : Nat), k + m = n 0 → mW (mMC mT (d + 0)) (0, fun _ => 0) (mAtL P_X10_ends) (some .int) Q 4 [some (.ref 53), some (.int (nI (slow (c 1) (u 3) k))), some (.int (nI k))] [] st := by
    intro m
    induction m with
    | zero =>
      intro k hk
      obtain rfl : n 0 = k := by omega
      refine w_blk 4 (pc' := 10) (ls' := [some (.ref 53), some (.int (nI (slow (c 1) (u 3) (n 0)))), some (.int (nI (n 0)))]) (sk' := [.int 0, .ref 55, .int (nI (n 0))]) (st' := st) (fun _ h => h) ?_
      refine w_iald rfl rfl (vp_in_nI (n := 0) (N := 2) (by decide) (by decide)) ?_
      rw [show Int32.toNatClampNeg (0 : Int32) = 0 from rfl]
      rw [hR.1]
      refine w_cmp_ge rfl (fun _ => ?_) (fun hno => absurd (Int32.le_refl _) hno)
      refine w_blk 4 (pc' := 61) (ls' := [some (.ref 53), some (.int (nI (slow (c 1) (u 3) (n 0)))), some (.int (nI (n 0)))]) (sk' := [.int 1, .ref 65, .int 1, .ref 65]) (st' := st) (fun _ h => h) ?_
      refine w_iald rfl rfl (vp_in_nI (n := 1) (N := 60) (by decide) (by decide)) ?_
      rw [show Int32.toNatClampNeg (1 : Int32) = 1 from rfl]
      rw [hM.1 1 (by omega)]
      refine w_blk 2 (pc' := 64) (ls' := [some (.ref 53), some (.int (nI (slow (c 1) (u 3) (n 0)))), some (.int (nI (n 0)))]) (sk' := [.int ((v 1) + (nI (slow (c 1) (u 3) (n 0)))), .int 1, .ref 65]) (st' := st) (fun _ h => h) ?_
      refine w_iast rfl rfl (vp_in_nI (n := 1) (N := 60) (by decide) (by decide)) ?_
      rw [show Int32.toNatClampNeg (1 : Int32) = 1 from rfl]
      have hM_2 : NM0 ((mU st.1 65 1 ((v 1) + (nI (slow (c 1) (u 3) (n 0))))), st.2) (updI v 1 (v 1 + nI (slow (c 1) (u 3) (n 0)))) u := NM0_v hM 1 _ (by decide)
      have hf_3 : Fr [65] st ((mU st.1 65 1 ((v 1) + (nI (slow (c 1) (u 3) (n 0))))), st.2) := (Fr.trans (Fr.rf : Fr [65] st st) (Fr.mU (by decide)))
      generalize ((mU st.1 65 1 ((v 1) + (nI (slow (c 1) (u 3) (n 0))))), st.2) = s1 at hM_2 hf_3 ⊢
      refine w_blk 4 (pc' := 71) (ls' := [some (.ref 53), some (.int (nI (slow (c 1) (u 3) (n 0)))), some (.int (nI (n 0)))]) (sk' := [.int 0, .int 3, .ref 65]) (st' := s1) (fun _ h => h) ?_
      refine w_iast rfl rfl (vp_in_nI (n := 3) (N := 60) (by decide) (by decide)) ?_
      rw [show Int32.toNatClampNeg (3 : Int32) = 3 from rfl]
      have hM_5 : NM0 ((mU s1.1 65 3 0), s1.2) (updI v 1 (v 1 + nI (slow (c 1) (u 3) (n 0)))) (updN u 3 0) := NM0_u hM_2 3 0 (by decide)
      have hf_6 : Fr [65] st ((mU s1.1 65 3 0), s1.2) := (Fr.trans hf_3 (Fr.mU (by decide)))
      generalize ((mU s1.1 65 3 0), s1.2) = s4 at hM_5 hf_6 ⊢
      refine w_blk 4 (pc' := 78) (ls' := [some (.ref 53), some (.int (nI (slow (c 1) (u 3) (n 0)))), some (.int (nI (n 0)))]) (sk' := [.int 0, .int 4, .ref 65]) (st' := s4) (fun _ h => h) ?_
      refine w_iast rfl rfl (vp_in_nI (n := 4) (N := 60) (by decide) (by decide)) ?_
      rw [show Int32.toNatClampNeg (4 : Int32) = 4 from rfl]
      have hM_8 : NM0 ((mU s4.1 65 4 0), s4.2) (updI v 1 (v 1 + nI (slow (c 1) (u 3) (n 0)))) (en_u u) := NM0_u hM_5 4 0 (by decide)
      have hf_9 : Fr [65] st ((mU s4.1 65 4 0), s4.2) := (Fr.trans hf_6 (Fr.mU (by decide)))
      generalize ((mU s4.1 65 4 0), s4.2) = s7 at hM_8 hf_9 ⊢
      refine w_blk 4 (pc' := 85) (ls' := [some (.ref 53), some (.int (nI (slow (c 1) (u 3) (n 0)))), some (.int (nI (n 0)))]) (sk' := [.int 0, .ref 65, .int 0, .ref 65]) (st' := s7) (fun _ h => h) ?_
      refine w_iald rfl rfl (vp_in_nI (n := 0) (N := 60) (by decide) (by decide)) ?_
      rw [show Int32.toNatClampNeg (0 : Int32) = 0 from rfl]
      rw [(show s7.1 65 0 = v 0 from hM_8.1 0 (by decide))]
      refine w_blk 2 (pc' := 88) (ls' := [some (.ref 53), some (.int (nI (slow (c 1) (u 3) (n 0)))), some (.int (nI (n 0)))]) (sk' := [.int ((v 0) + 1), .int 0, .ref 65]) (st' := s7) (fun _ h => h) ?_
      refine w_iast rfl rfl (vp_in_nI (n := 0) (N := 60) (by decide) (by decide)) ?_
      rw [show Int32.toNatClampNeg (0 : Int32) = 0 from rfl]
      have hM_11 : NM0 ((mU s7.1 65 0 ((v 0) + 1)), s7.2) (en_v n c v u) (en_u u) := (by have hh := NM0_v hM_8 0 (v 0 + 1) (by decide); rw [show updI (updI v 1 (v 1 + nI (slow (c 1) (u 3) (n 0)))) 0 (v 0 + 1) = en_v n c v u from updI_comm (by decide)] at hh; exact hh)
      have hf_12 : Fr [65] st ((mU s7.1 65 0 ((v 0) + 1)), s7.2) := (Fr.trans hf_9 (Fr.mU (by decide)))
      generalize ((mU s7.1 65 0 ((v 0) + 1)), s7.2) = s10 at hM_11 hf_12 ⊢
      refine w_blk 1 (pc' := 90) (ls' := [some (.ref 53), some (.int (nI (slow (c 1) (u 3) (n 0)))), some (.int (nI (n 0)))]) (sk' := [.int (nI (slow (c 1) (u 3) (n 0)))]) (st' := s10) (fun _ h => h) ?_
      exact w_iret rfl rfl rfl (hq _ ⟨hM_11, hf_12⟩)
    | succ m ih =>
      intro k hk
      have hk2 : k < n 0 := by omega
      have hsk := hsl k (by omega)
      have hpk := (hbd k hk2).2.2.2.1
      refine w_blk 4 (pc' := 10) (ls' := [some (.ref 53), some (.int (nI (slow (c 1) (u 3) k))), some (.int (nI k))]) (sk' := [.int 0, .ref 55, .int (nI k)]) (st' := st) (fun _ h => h) ?_
      refine w_iald rfl rfl (vp_in_nI (n := 0) (N := 2) (by decide) (by decide)) ?_
      rw [show Int32.toNatClampNeg (0 : Int32) = 0 from rfl]
      rw [hR.1]
      refine w_cmp_ge rfl (fun hno => absurd hno (nI_ge hk2 (by omega))) (fun _ => ?_)
      refine w_blk 3 (pc' := 19) (ls' := [some (.ref 53), some (.int (nI (slow (c 1) (u 3) k))), some (.int (nI k))]) (sk' := [.int 3, .ref 65]) (st' := st) (fun _ h => h) ?_
      refine w_iald rfl rfl (vp_in_nI (n := 3) (N := 60) (by decide) (by decide)) ?_
      rw [show Int32.toNatClampNeg (3 : Int32) = 3 from rfl]
      rw [hM.2 3 (by omega) (by omega)]
      refine w_blk 4 (pc' := 24) (ls' := [some (.ref 53), some (.int (nI (slow (c 1) (u 3) k))), some (.int (nI k))]) (sk' := [.int (((nI (u 3)) >>> ((nI k) &&& 31)) &&& 1)]) (st' := st) (fun _ h => h) ?_
      rw [show (((nI (u 3)) >>> ((nI k) &&& 31)) &&& 1) = pI (Nat.testBit (u 3) k = true) from nI_bit (by omega) (by have := hU 3 (by omega) (by omega); omega)]
      refine w_blk 1 (pc' := 25) (ls' := [some (.ref 53), some (.int (nI (slow (c 1) (u 3) k))), some (.int (nI k))]) (sk' := [.int 1, .int (pI (Nat.testBit (u 3) k = true))]) (st' := st) (fun _ h => h) ?_
      refine w_cmp_ne rfl (fun h1 => ?_) (fun h1 => ?_)
      · replace h1 := fun hh => h1 (pI_eq1.mpr hh)
        refine w_blk 3 (pc' := 52) (ls' := [some (.ref 53), some (.int (nI (slow (c 1) (u 3) k))), some (.int ((nI k) + 1))]) (sk' := []) (st' := st) (fun _ h => h) ?_
        rw [show ((nI k) + 1) = nI (k + 1) from nI_add k 1]
        refine w_blk 1 (pc' := 4) (ls' := [some (.ref 53), some (.int (nI (slow (c 1) (u 3) k))), some (.int (nI (k + 1)))]) (sk' := []) (st' := st) (fun _ h => h) ?_
        exact (by have hh := ih (k + 1) (by omega); rw [show slow (c 1) (u 3) (k + 1) = slow (c 1) (u 3) k from by show (if (u 3).testBit k = true then max (slow (c 1) (u 3) k) (c 1 k) else slow (c 1) (u 3) k) = _; split <;> first | rfl | omega | contradiction] at hh; exact hh)
      · replace h1 := pI_eq1.mp (Decidable.not_not.mp h1)
        refine w_blk 3 (pc' := 33) (ls' := [some (.ref 53), some (.int (nI (slow (c 1) (u 3) k))), some (.int (nI k))]) (sk' := [.int (nI k), .ref 57]) (st' := st) (fun _ h => h) ?_
        refine w_iald rfl rfl (vp_in_nI (n := k) (N := 12) (by omega) (by decide)) ?_
        rw [nI_clamp (show k < 2 ^ 31 by omega)]
        rw [(hR.2.2.2.1 k (by omega)).2.1]
        refine w_blk 1 (pc' := 35) (ls' := [some (.ref 53), some (.int (nI (slow (c 1) (u 3) k))), some (.int (nI k))]) (sk' := [.int (nI (slow (c 1) (u 3) k)), .int (nI (c 1 k))]) (st' := st) (fun _ h => h) ?_
        refine w_cmp_le rfl (fun h2 => ?_) (fun h2 => ?_)
        · replace h2 : c 1 k ≤ slow (c 1) (u 3) k := (nI_leI (a := (c 1 k)) (b := (slow (c 1) (u 3) k)) (by omega) (by omega)).mp h2
          refine w_blk 3 (pc' := 52) (ls' := [some (.ref 53), some (.int (nI (slow (c 1) (u 3) k))), some (.int ((nI k) + 1))]) (sk' := []) (st' := st) (fun _ h => h) ?_
          rw [show ((nI k) + 1) = nI (k + 1) from nI_add k 1]
          refine w_blk 1 (pc' := 4) (ls' := [some (.ref 53), some (.int (nI (slow (c 1) (u 3) k))), some (.int (nI (k + 1)))]) (sk' := []) (st' := st) (fun _ h => h) ?_
          exact (by have hh := ih (k + 1) (by omega); rw [show slow (c 1) (u 3) (k + 1) = slow (c 1) (u 3) k from by show (if (u 3).testBit k = true then max (slow (c 1) (u 3) k) (c 1 k) else slow (c 1) (u 3) k) = _; split <;> first | rfl | omega | contradiction] at hh; exact hh)
        · replace h2 : ¬ (c 1 k ≤ slow (c 1) (u 3) k) := fun hh => h2 ((nI_leI (a := (c 1 k)) (b := (slow (c 1) (u 3) k)) (by omega) (by omega)).mpr hh)
          refine w_blk 3 (pc' := 43) (ls' := [some (.ref 53), some (.int (nI (slow (c 1) (u 3) k))), some (.int (nI k))]) (sk' := [.int (nI k), .ref 57]) (st' := st) (fun _ h => h) ?_
          refine w_iald rfl rfl (vp_in_nI (n := k) (N := 12) (by omega) (by decide)) ?_
          rw [nI_clamp (show k < 2 ^ 31 by omega)]
          rw [(hR.2.2.2.1 k (by omega)).2.1]
          refine w_blk 3 (pc' := 52) (ls' := [some (.ref 53), some (.int (nI (c 1 k))), some (.int ((nI k) + 1))]) (sk' := []) (st' := st) (fun _ h => h) ?_
          rw [show ((nI k) + 1) = nI (k + 1) from nI_add k 1]
          refine w_blk 1 (pc' := 4) (ls' := [some (.ref 53), some (.int (nI (c 1 k))), some (.int (nI (k + 1)))]) (sk' := []) (st' := st) (fun _ h => h) ?_
          exact (by have hh := ih (k + 1) (by omega); rw [show slow (c 1) (u 3) (k + 1) = c 1 k from (if_pos h1).trans (by omega)] at hh; exact hh)
  exact key (n 0 - 0) 0 (by omega)
set_option maxRecDepth 20000 in
/-- breaks -/
theorem m_breaks (d : Nat) (n : Nat → Nat) (c : Nat → Nat → Nat) (v : Nat → Int32) (u : Nat → Nat) (x : Int32) (st : mSt) (hR : MR st n c) (hM : NM0 st v u) (hB : CB n c) (hU : ∀ j, 3 ≤ j → j < 12 → u j < 256) : ∃ (s : mSt), mMC mT (d + 3) 152 [.ref 53, .int x] st (some (.int (sp_breaks n u x))) s ∧ NM0 s v (br_u n u x) ∧ Fr [65] st s := by
  suffices H : ∀ Q : Option Value → mSt → Prop, (∀ (s : mSt), (NM0 s v (br_u n u x) ∧ Fr [65] st s) → Q (some (.int (sp_breaks n u x))) s) → mW (mMC mT (d + 2)) (0, fun _ => 0) (mAtL P_X10_breaks) (some .int) Q 0 [some (.ref 53), some (.int x), none] [] st by
    obtain ⟨_, _, ⟨s, rfl, rfl, hp⟩, hw⟩ := mW_ex (H (fun vv tt => ∃ (s : mSt),  vv = some (.int (sp_breaks n u x)) ∧ s = tt ∧ NM0 s v (br_u n u x) ∧ Fr [65] st s) (fun s hp => ⟨s, rfl, rfl, hp⟩))
    exact ⟨s, mI_X10_breaks (d := d + 2) (Nat.le_of_ble_eq_true rfl) hw, hp⟩
  intro Q hq
  obtain ⟨hb0, hb1, hb2, hbd, hbs, hby⟩ := id hB
  refine w_blk 2 (pc' := 2) (ls' := [some (.ref 53), some (.int x), none]) (sk' := [.int x, .ref 53]) (st' := st) (fun _ h => h) ?_
  refine w_callV (As := [.ref 53, .int x]) (rest := []) rfl rfl rfl (Nat.le_of_ble_eq_true rfl) (Nat.le_of_ble_eq_true rfl) (by first | exact Or.inl ⟨rfl, rfl⟩ | exact Or.inr ⟨rfl, rfl⟩) (m_isSpade (d + 0) n c x st hR hB) ?_
  refine w_if_ne rfl (fun h1 => ?_) (fun h1 => ?_)
  · replace h1 := pI_ne.mp h1
    obtain ⟨k, hk, rfl⟩ := nI_in2 (by omega) h1
    have hok : ok1 n (nI k) := nI_in3 (by omega) hk
    have ec := nI_clamp (show k < 2 ^ 31 by omega)
    refine w_blk 3 (pc' := 15) (ls' := [some (.ref 53), some (.int (nI k)), none]) (sk' := [.int 5, .ref 65]) (st' := st) (fun _ h => h) ?_
    refine w_iald rfl rfl (vp_in_nI (n := 5) (N := 60) (by decide) (by decide)) ?_
    rw [show Int32.toNatClampNeg (5 : Int32) = 5 from rfl]
    rw [hM.2 5 (by omega) (by omega)]
    refine w_blk 4 (pc' := 20) (ls' := [some (.ref 53), some (.int (nI k)), none]) (sk' := [.int (((nI (u 5)) >>> ((nI k) &&& 31)) &&& 1)]) (st' := st) (fun _ h => h) ?_
    rw [show (((nI (u 5)) >>> ((nI k) &&& 31)) &&& 1) = pI (Nat.testBit (u 5) k = true) from nI_bit (by omega) (by have := hU 5 (by omega) (by omega); omega)]
    refine w_blk 5 (pc' := 27) (ls' := [some (.ref 53), some (.int (nI k)), some (.int (pI (Nat.testBit (u 5) k = true)))]) (sk' := [.int 5, .ref 65, .int 5, .ref 65]) (st' := st) (fun _ h => h) ?_
    refine w_iald rfl rfl (vp_in_nI (n := 5) (N := 60) (by decide) (by decide)) ?_
    rw [show Int32.toNatClampNeg (5 : Int32) = 5 from rfl]
    rw [hM.2 5 (by omega) (by omega)]
    refine w_blk 3 (pc' := 31) (ls' := [some (.ref 53), some (.int (nI k)), some (.int (pI (Nat.testBit (u 5) k = true)))]) (sk' := [.int (1 <<< ((nI k) &&& 31)), .int (nI (u 5)), .int 5, .ref 65]) (st' := st) (fun _ h => h) ?_
    rw [show (1 <<< ((nI k) &&& 31)) = nI (2 ^ k) from nI_shl1 (by omega)]
    refine w_blk 1 (pc' := 32) (ls' := [some (.ref 53), some (.int (nI k)), some (.int (pI (Nat.testBit (u 5) k = true)))]) (sk' := [.int ((nI (u 5)) ||| (nI (2 ^ k))), .int 5, .ref 65]) (st' := st) (fun _ h => h) ?_
    rw [show ((nI (u 5)) ||| (nI (2 ^ k))) = nI ((u 5) ||| (2 ^ k)) from nI_or (u 5) (2 ^ k)]
    refine w_iast rfl rfl (vp_in_nI (n := 5) (N := 60) (by decide) (by decide)) ?_
    rw [show Int32.toNatClampNeg (5 : Int32) = 5 from rfl]
    have hM_2 : NM0 ((mU st.1 65 5 (nI ((u 5) ||| (2 ^ k)))), st.2) v (updN u 5 (u 5 ||| 2 ^ k)) := NM0_u hM 5 _ (by decide)
    have hf_3 : Fr [65] st ((mU st.1 65 5 (nI ((u 5) ||| (2 ^ k)))), st.2) := (Fr.trans (Fr.rf : Fr [65] st st) (Fr.mU (by decide)))
    generalize ((mU st.1 65 5 (nI ((u 5) ||| (2 ^ k)))), st.2) = s1 at hM_2 hf_3 ⊢
    refine w_blk 3 (pc' := 36) (ls' := [some (.ref 53), some (.int (nI k)), some (.int (pI (Nat.testBit (u 5) k = true)))]) (sk' := [.int (1 - (pI (Nat.testBit (u 5) k = true)))]) (st' := s1) (fun _ h => h) ?_
    rw [show sp_breaks n u (nI k) = (1 - (pI (Nat.testBit (u 5) k = true))) from (if_pos hok).trans (by rw [ec]; by_cases hb : (u 5).testBit k = true <;> simp only [hb, if_true, if_false, pI] <;> rfl), show br_u n u (nI k) = updN u 5 (u 5 ||| 2 ^ k) from (if_pos hok).trans (by rw [ec])] at hq
    exact w_iret rfl rfl rfl (hq _ ⟨hM_2, hf_3⟩)
  · replace h1 := pI_eq0.mp (Decidable.not_not.mp h1)
    refine w_blk 1 (pc' := 9) (ls' := [some (.ref 53), some (.int x), none]) (sk' := [.int (-1)]) (st' := st) (fun _ h => h) ?_
    rw [show sp_breaks n u x = -1 from if_neg h1, show br_u n u x = u from if_neg h1] at hq
    exact w_iret rfl rfl rfl (hq _ ⟨hM, Fr.rf⟩)
set_option maxRecDepth 20000 in
/-- anew -/
theorem m_anew (d : Nat) (v : Nat → Int32) (u : Nat → Nat)  (st : mSt) (hM : NM0 st v u) : ∃ (s : mSt), mMC mT (d + 1) 154 [.ref 53] st (some (.int (v 0))) s ∧ NM0 s (fun _ => 0) (fun _ => 0) ∧ Fr [65] st s := by
  suffices H : ∀ Q : Option Value → mSt → Prop, (∀ (s : mSt), (NM0 s (fun _ => 0) (fun _ => 0) ∧ Fr [65] st s) → Q (some (.int (v 0))) s) → mW (mMC mT (d + 0)) (0, fun _ => 0) (mAtL P_X10_anew) (some .int) Q 0 [some (.ref 53), none, none] [] st by
    obtain ⟨_, _, ⟨s, rfl, rfl, hp⟩, hw⟩ := mW_ex (H (fun vv tt => ∃ (s : mSt),  vv = some (.int (v 0)) ∧ s = tt ∧ NM0 s (fun _ => 0) (fun _ => 0) ∧ Fr [65] st s) (fun s hp => ⟨s, rfl, rfl, hp⟩))
    exact ⟨s, mI_X10_anew (d := d + 0) (Nat.le_of_ble_eq_true rfl) hw, hp⟩
  intro Q hq
  refine w_blk 3 (pc' := 5) (ls' := [some (.ref 53), none, none]) (sk' := [.int 0, .ref 65]) (st' := st) (fun _ h => h) ?_
  refine w_iald rfl rfl (vp_in_nI (n := 0) (N := 60) (by decide) (by decide)) ?_
  rw [show Int32.toNatClampNeg (0 : Int32) = 0 from rfl]
  rw [hM.1 0 (by omega)]
  refine w_blk 3 (pc' := 9) (ls' := [some (.ref 53), some (.int (v 0)), some (.int 0)]) (sk' := []) (st' := st) (fun _ h => h) ?_
  suffices key : ∀ (m k : Nat) (s0 : mSt), k + m = 20 → Fr [65] st s0 → (∀ j, j < k → s0.1 65 j = 0) → mW (mMC mT (d + 0)) (0, fun _ => 0) (mAtL P_X10_anew) (some .int) Q 9 [some (.ref 53), some (.int (v 0)), some (.int (nI k))] [] s0 from key 20 0 st (by omega) Fr.rf (fun j hj => absurd hj (by omega))
  intro m
  induction m with
  | zero =>
    intro k s0 hk hf hz
    obtain rfl : k = 20 := by omega
    refine w_blk 2 (pc' := 12) (ls' := [some (.ref 53), some (.int (v 0)), some (.int (nI 20))]) (sk' := [.int 20, .int (nI 20)]) (st' := s0) (fun _ h => h) ?_
    refine w_cmp_ge rfl (fun _ => ?_) (fun hno => absurd (Int32.le_refl _) hno)
    refine w_blk 1 (pc' := 29) (ls' := [some (.ref 53), some (.int (v 0)), some (.int (nI 20))]) (sk' := [.int (v 0)]) (st' := s0) (fun _ h => h) ?_
    exact w_iret rfl rfl rfl (hq _ ⟨⟨fun j hj => hz j (by omega), fun j _ hj => hz j hj⟩, hf⟩)
  | succ m ih =>
    intro k s0 hk hf hz
    refine w_blk 2 (pc' := 12) (ls' := [some (.ref 53), some (.int (v 0)), some (.int (nI k))]) (sk' := [.int 20, .int (nI k)]) (st' := s0) (fun _ h => h) ?_
    refine w_cmp_ge rfl (fun hno => absurd hno (nI_ge (a := k) (b := 20) (by omega) (by omega))) (fun _ => ?_)
    refine w_blk 4 (pc' := 21) (ls' := [some (.ref 53), some (.int (v 0)), some (.int (nI k))]) (sk' := [.int 0, .int (nI k), .ref 65]) (st' := s0) (fun _ h => h) ?_
    refine w_iast rfl rfl (vp_in_nI (n := k) (N := 60) (by omega) (by decide)) ?_
    rw [nI_clamp (show k < 2 ^ 31 by omega)]
    refine w_blk 1 (pc' := 25) (ls' := [some (.ref 53), some (.int (v 0)), some (.int ((nI k) + 1))]) (sk' := []) (st' := ((mU s0.1 65 k 0), s0.2)) (fun _ h => h) ?_
    rw [show ((nI k) + 1) = nI (k + 1) from nI_add k 1]
    refine w_blk 1 (pc' := 9) (ls' := [some (.ref 53), some (.int (v 0)), some (.int (nI (k + 1)))]) (sk' := []) (st' := ((mU s0.1 65 k 0), s0.2)) (fun _ h => h) ?_
    refine ih (k + 1) ((mU s0.1 65 k 0), s0.2) (by omega) (Fr.trans hf (Fr.mU (by decide))) (fun j hj => ?_)
    by_cases e : j = k
    · subst e
      exact mU_at (f := s0.1) (p := 65) (k := j)
    · exact (mU_row e).trans (hz j (by omega))
set_option maxRecDepth 20000 in
/-- throwWith -/
theorem m_throwWith (d : Nat) (n : Nat → Nat) (c : Nat → Nat → Nat) (v : Nat → Int32) (u : Nat → Nat) (yd : Nat) (x y : Int32) (st : mSt) (hR : MR st n c) (hM : NM0 st v u) (hB : CB n c) (hU : ∀ j, 3 ≤ j → j < 12 → u j < 256) (hyd : yd ≤ n 2) (hyb : yd < n 2 → u (12 + yd) < c 5 yd) (hyc : ∀ y, y < yd → u (12 + y) = c 5 y) : ∃ (s : mSt), mMC mT (d + 3) 150 [.ref 53, .int x, .int y] st (some (.int (sp_throw n c u yd x y))) s ∧ NM0 s (tw_v n c v u yd x y) (tw_u n c u yd x y) ∧ Fr [65] st s := by
  suffices H : ∀ Q : Option Value → mSt → Prop, (∀ (s : mSt), (NM0 s (tw_v n c v u yd x y) (tw_u n c u yd x y) ∧ Fr [65] st s) → Q (some (.int (sp_throw n c u yd x y))) s) → mW (mMC mT (d + 2)) (0, fun _ => 0) (mAtL P_X10_throwWith) (some .int) Q 0 [some (.ref 53), some (.int x), some (.int y), none, none, none] [] st by
    obtain ⟨_, _, ⟨s, rfl, rfl, hp⟩, hw⟩ := mW_ex (H (fun vv tt => ∃ (s : mSt),  vv = some (.int (sp_throw n c u yd x y)) ∧ s = tt ∧ NM0 s (tw_v n c v u yd x y) (tw_u n c u yd x y) ∧ Fr [65] st s) (fun s hp => ⟨s, rfl, rfl, hp⟩))
    exact ⟨s, mI_X10_throwWith (d := d + 2) (Nat.le_of_ble_eq_true rfl) hw, hp⟩
  intro Q hq
  obtain ⟨hb0, hb1, hb2, hbd, hbs, hby⟩ := id hB
  refine w_blk 2 (pc' := 2) (ls' := [some (.ref 53), some (.int x), some (.int y), none, none, none]) (sk' := [.int x, .ref 53]) (st' := st) (fun _ h => h) ?_
  refine w_callV (As := [.ref 53, .int x]) (rest := []) rfl rfl rfl (Nat.le_of_ble_eq_true rfl) (Nat.le_of_ble_eq_true rfl) (by first | exact Or.inl ⟨rfl, rfl⟩ | exact Or.inr ⟨rfl, rfl⟩) (m_isDigger (d + 0) n c x st hR hB) ?_
  refine w_if_eq rfl (fun h1 => ?_) (fun h1 => ?_)
  · replace h1 := pI_eq0.mp h1
    refine w_blk 1 (pc' := 17) (ls' := [some (.ref 53), some (.int x), some (.int y), none, none, none]) (sk' := [.int (-1)]) (st' := st) (fun _ h => h) ?_
    have hno : ¬ thC n c u x y := fun h => h1 h.1
    rw [show tw_v n c v u yd x y = v from if_neg hno, show tw_u n c u yd x y = u from if_neg hno, show sp_throw n c u yd x y = -1 from if_neg h1] at hq
    exact w_iret rfl rfl rfl (hq _ ⟨hM, Fr.rf⟩)
  · replace h1 := pI_ne.mp h1
    obtain ⟨k, hk, rfl⟩ := nI_in2 (by omega) h1
    refine w_blk 2 (pc' := 10) (ls' := [some (.ref 53), some (.int (nI k)), some (.int y), none, none, none]) (sk' := [.int y, .ref 53]) (st' := st) (fun _ h => h) ?_
    refine w_callV (As := [.ref 53, .int y]) (rest := []) rfl rfl rfl (Nat.le_of_ble_eq_true rfl) (Nat.le_of_ble_eq_true rfl) (by first | exact Or.inl ⟨rfl, rfl⟩ | exact Or.inr ⟨rfl, rfl⟩) (m_isSpade (d + 0) n c y st hR hB) ?_
    refine w_if_ne rfl (fun h2 => ?_) (fun h2 => ?_)
    · replace h2 := pI_ne.mp h2
      obtain ⟨j, hj, rfl⟩ := nI_in2 (by omega) h2
      have ht3 := hU 3 (by omega) (by omega)
      have ht4 := hU 4 (by omega) (by omega)
      refine w_blk 3 (pc' := 21) (ls' := [some (.ref 53), some (.int (nI k)), some (.int (nI j)), none, none, none]) (sk' := [.int (nI j), .int (nI k), .ref 53]) (st' := st) (fun _ h => h) ?_
      refine w_callV (As := [.ref 53, .int (nI k), .int (nI j)]) (rest := []) rfl rfl rfl (Nat.le_of_ble_eq_true rfl) (Nat.le_of_ble_eq_true rfl) (by first | exact Or.inl ⟨rfl, rfl⟩ | exact Or.inr ⟨rfl, rfl⟩) (m_mayNow (d + 1) n c v u k j st hR hM hB hU (by omega) (by omega)) ?_
      refine w_if_eq rfl (fun h5 => ?_) (fun h5 => ?_)
      · replace h5 := pI_eq0.mp h5
        refine w_blk 1 (pc' := 57) (ls' := [some (.ref 53), some (.int (nI k)), some (.int (nI j)), none, none, none]) (sk' := [.int (-2)]) (st' := st) (fun _ h => h) ?_
        have h3 : ¬ canP c u k j := fun h => h5 h.1
        have hno : ¬ thC n c u (nI k) (nI j) := fun h => h3 ((thC_iff (by omega) (by omega) hk hj).mp h)
        rw [show tw_v n c v u yd (nI k) (nI j) = v from if_neg hno, show tw_u n c u yd (nI k) (nI j) = u from if_neg hno, show sp_throw n c u yd (nI k) (nI j) = -2 from by unfold sp_throw; rw [if_pos (nI_in3 (by omega) hk), if_pos (nI_in3 (by omega) hj), nI_clamp (show k < 2 ^ 31 by omega), nI_clamp (show j < 2 ^ 31 by omega), if_neg h3]] at hq
        exact w_iret rfl rfl rfl (hq _ ⟨hM, Fr.rf⟩)
      · replace h5 := pI_ne.mp h5
        refine w_blk 3 (pc' := 32) (ls' := [some (.ref 53), some (.int (nI k)), some (.int (nI j)), none, none, none]) (sk' := [.int 3, .ref 65]) (st' := st) (fun _ h => h) ?_
        refine w_iald rfl rfl (vp_in_nI (n := 3) (N := 60) (by decide) (by decide)) ?_
        rw [show Int32.toNatClampNeg (3 : Int32) = 3 from rfl]
        rw [hM.2 3 (by omega) (by omega)]
        refine w_blk 4 (pc' := 37) (ls' := [some (.ref 53), some (.int (nI k)), some (.int (nI j)), none, none, none]) (sk' := [.int (((nI (u 3)) >>> ((nI k) &&& 31)) &&& 1)]) (st' := st) (fun _ h => h) ?_
        rw [show (((nI (u 3)) >>> ((nI k) &&& 31)) &&& 1) = pI (Nat.testBit (u 3) k = true) from nI_bit (by omega) (by have := hU 3 (by omega) (by omega); omega)]
        refine w_blk 1 (pc' := 38) (ls' := [some (.ref 53), some (.int (nI k)), some (.int (nI j)), none, none, none]) (sk' := [.int 1, .int (pI (Nat.testBit (u 3) k = true))]) (st' := st) (fun _ h => h) ?_
        refine w_cmp_eq rfl (fun h6 => ?_) (fun h6 => ?_)
        · replace h6 := pI_eq1.mp h6
          refine w_blk 1 (pc' := 57) (ls' := [some (.ref 53), some (.int (nI k)), some (.int (nI j)), none, none, none]) (sk' := [.int (-2)]) (st' := st) (fun _ h => h) ?_
          have h3 : ¬ canP c u k j := fun h => absurd h6 (tb_false.mpr h.2.1)
          have hno : ¬ thC n c u (nI k) (nI j) := fun h => h3 ((thC_iff (by omega) (by omega) hk hj).mp h)
          rw [show tw_v n c v u yd (nI k) (nI j) = v from if_neg hno, show tw_u n c u yd (nI k) (nI j) = u from if_neg hno, show sp_throw n c u yd (nI k) (nI j) = -2 from by unfold sp_throw; rw [if_pos (nI_in3 (by omega) hk), if_pos (nI_in3 (by omega) hj), nI_clamp (show k < 2 ^ 31 by omega), nI_clamp (show j < 2 ^ 31 by omega), if_neg h3]] at hq
          exact w_iret rfl rfl rfl (hq _ ⟨hM, Fr.rf⟩)
        · replace h6 := fun hh => h6 (pI_eq1.mpr hh)
          refine w_blk 3 (pc' := 46) (ls' := [some (.ref 53), some (.int (nI k)), some (.int (nI j)), none, none, none]) (sk' := [.int 4, .ref 65]) (st' := st) (fun _ h => h) ?_
          refine w_iald rfl rfl (vp_in_nI (n := 4) (N := 60) (by decide) (by decide)) ?_
          rw [show Int32.toNatClampNeg (4 : Int32) = 4 from rfl]
          rw [hM.2 4 (by omega) (by omega)]
          refine w_blk 4 (pc' := 51) (ls' := [some (.ref 53), some (.int (nI k)), some (.int (nI j)), none, none, none]) (sk' := [.int (((nI (u 4)) >>> ((nI j) &&& 31)) &&& 1)]) (st' := st) (fun _ h => h) ?_
          rw [show (((nI (u 4)) >>> ((nI j) &&& 31)) &&& 1) = pI (Nat.testBit (u 4) j = true) from nI_bit (by omega) (by have := hU 4 (by omega) (by omega); omega)]
          refine w_blk 1 (pc' := 52) (ls' := [some (.ref 53), some (.int (nI k)), some (.int (nI j)), none, none, none]) (sk' := [.int 1, .int (pI (Nat.testBit (u 4) j = true))]) (st' := st) (fun _ h => h) ?_
          refine w_cmp_ne rfl (fun h7 => ?_) (fun h7 => ?_)
          · replace h7 := fun hh => h7 (pI_eq1.mpr hh)
            have hcan : canP c u k j := ⟨h5, tb_false.mp h6, tb_false.mp (by first | assumption | exact fun e => h7 e)⟩
            have hyes : thC n c u (nI k) (nI j) := (thC_iff (by omega) (by omega) hk hj).mpr hcan
            refine w_blk 5 (pc' := 66) (ls' := [some (.ref 53), some (.int (nI k)), some (.int (nI j)), none, none, none]) (sk' := [.int (6 + (nI k)), .ref 65]) (st' := st) (fun _ h => h) ?_
            rw [show (6 + (nI k)) = nI (6 + k) from nI_add 6 k]
            refine w_blk 1 (pc' := 67) (ls' := [some (.ref 53), some (.int (nI k)), some (.int (nI j)), none, none, none]) (sk' := [.int (nI (6 + k)), .ref 65, .int (nI (6 + k)), .ref 65]) (st' := st) (fun _ h => h) ?_
            refine w_iald rfl rfl (vp_in_nI (n := (6 + k)) (N := 60) (by omega) (by decide)) ?_
            rw [nI_clamp (show (6 + k) < 2 ^ 31 by omega)]
            rw [hM.2 (6 + k) (by omega) (by omega)]
            refine w_blk 3 (pc' := 71) (ls' := [some (.ref 53), some (.int (nI k)), some (.int (nI j)), none, none, none]) (sk' := [.int (1 <<< ((nI j) &&& 31)), .int (nI (u (6 + k))), .int (nI (6 + k)), .ref 65]) (st' := st) (fun _ h => h) ?_
            rw [show (1 <<< ((nI j) &&& 31)) = nI (2 ^ j) from nI_shl1 (by omega)]
            refine w_blk 1 (pc' := 72) (ls' := [some (.ref 53), some (.int (nI k)), some (.int (nI j)), none, none, none]) (sk' := [.int ((nI (u (6 + k))) ||| (nI (2 ^ j))), .int (nI (6 + k)), .ref 65]) (st' := st) (fun _ h => h) ?_
            rw [show ((nI (u (6 + k))) ||| (nI (2 ^ j))) = nI ((u (6 + k)) ||| (2 ^ j)) from nI_or (u (6 + k)) (2 ^ j)]
            refine w_iast rfl rfl (vp_in_nI (n := (6 + k)) (N := 60) (by omega) (by decide)) ?_
            rw [nI_clamp (show (6 + k) < 2 ^ 31 by omega)]
            have hM_2 : NM0 ((mU st.1 65 (6 + k) (nI ((u (6 + k)) ||| (2 ^ j)))), st.2) v (updN u (6 + k) (u (6 + k) ||| 2 ^ j)) := NM0_u hM (6 + k) _ (by omega)
            have hf_3 : Fr [65] st ((mU st.1 65 (6 + k) (nI ((u (6 + k)) ||| (2 ^ j)))), st.2) := (Fr.trans (Fr.rf : Fr [65] st st) (Fr.mU (by decide)))
            generalize ((mU st.1 65 (6 + k) (nI ((u (6 + k)) ||| (2 ^ j)))), st.2) = s1 at hM_2 hf_3 ⊢
            refine w_blk 4 (pc' := 79) (ls' := [some (.ref 53), some (.int (nI k)), some (.int (nI j)), none, none, none]) (sk' := [.int 3, .ref 65, .int 3, .ref 65]) (st' := s1) (fun _ h => h) ?_
            refine w_iald rfl rfl (vp_in_nI (n := 3) (N := 60) (by decide) (by decide)) ?_
            rw [show Int32.toNatClampNeg (3 : Int32) = 3 from rfl]
            rw [(show s1.1 65 3 = nI (u 3) from (hM_2.2 3 (by decide) (by decide)).trans (by rw [updN_n (by omega)]))]
            refine w_blk 3 (pc' := 83) (ls' := [some (.ref 53), some (.int (nI k)), some (.int (nI j)), none, none, none]) (sk' := [.int (1 <<< ((nI k) &&& 31)), .int (nI (u 3)), .int 3, .ref 65]) (st' := s1) (fun _ h => h) ?_
            rw [show (1 <<< ((nI k) &&& 31)) = nI (2 ^ k) from nI_shl1 (by omega)]
            refine w_blk 1 (pc' := 84) (ls' := [some (.ref 53), some (.int (nI k)), some (.int (nI j)), none, none, none]) (sk' := [.int ((nI (u 3)) ||| (nI (2 ^ k))), .int 3, .ref 65]) (st' := s1) (fun _ h => h) ?_
            rw [show ((nI (u 3)) ||| (nI (2 ^ k))) = nI ((u 3) ||| (2 ^ k)) from nI_or (u 3) (2 ^ k)]
            refine w_iast rfl rfl (vp_in_nI (n := 3) (N := 60) (by decide) (by decide)) ?_
            rw [show Int32.toNatClampNeg (3 : Int32) = 3 from rfl]
            have hM_5 : NM0 ((mU s1.1 65 3 (nI ((u 3) ||| (2 ^ k)))), s1.2) v (updN (updN u (6 + k) (u (6 + k) ||| 2 ^ j)) 3 (u 3 ||| 2 ^ k)) := NM0_u hM_2 3 _ (by decide)
            have hf_6 : Fr [65] st ((mU s1.1 65 3 (nI ((u 3) ||| (2 ^ k)))), s1.2) := (Fr.trans hf_3 (Fr.mU (by decide)))
            generalize ((mU s1.1 65 3 (nI ((u 3) ||| (2 ^ k)))), s1.2) = s4 at hM_5 hf_6 ⊢
            refine w_blk 4 (pc' := 91) (ls' := [some (.ref 53), some (.int (nI k)), some (.int (nI j)), none, none, none]) (sk' := [.int 4, .ref 65, .int 4, .ref 65]) (st' := s4) (fun _ h => h) ?_
            refine w_iald rfl rfl (vp_in_nI (n := 4) (N := 60) (by decide) (by decide)) ?_
            rw [show Int32.toNatClampNeg (4 : Int32) = 4 from rfl]
            rw [(show s4.1 65 4 = nI (u 4) from (hM_5.2 4 (by decide) (by decide)).trans (by rw [updN_n (by decide)]; rw [updN_n (by omega)]))]
            refine w_blk 3 (pc' := 95) (ls' := [some (.ref 53), some (.int (nI k)), some (.int (nI j)), none, none, none]) (sk' := [.int (1 <<< ((nI j) &&& 31)), .int (nI (u 4)), .int 4, .ref 65]) (st' := s4) (fun _ h => h) ?_
            rw [show (1 <<< ((nI j) &&& 31)) = nI (2 ^ j) from nI_shl1 (by omega)]
            refine w_blk 1 (pc' := 96) (ls' := [some (.ref 53), some (.int (nI k)), some (.int (nI j)), none, none, none]) (sk' := [.int ((nI (u 4)) ||| (nI (2 ^ j))), .int 4, .ref 65]) (st' := s4) (fun _ h => h) ?_
            rw [show ((nI (u 4)) ||| (nI (2 ^ j))) = nI ((u 4) ||| (2 ^ j)) from nI_or (u 4) (2 ^ j)]
            refine w_iast rfl rfl (vp_in_nI (n := 4) (N := 60) (by decide) (by decide)) ?_
            rw [show Int32.toNatClampNeg (4 : Int32) = 4 from rfl]
            have hM_8 : NM0 ((mU s4.1 65 4 (nI ((u 4) ||| (2 ^ j)))), s4.2) v (th_u u k j) := (by have hh := NM0_u hM_5 4 (u 4 ||| 2 ^ j) (by decide); rw [updN_comm (show 6 + k ≠ 3 by omega), updN_comm (show 6 + k ≠ 4 by omega)] at hh; exact hh)
            have hf_9 : Fr [65] st ((mU s4.1 65 4 (nI ((u 4) ||| (2 ^ j)))), s4.2) := (Fr.trans hf_6 (Fr.mU (by decide)))
            generalize ((mU s4.1 65 4 (nI ((u 4) ||| (2 ^ j)))), s4.2) = s7 at hM_8 hf_9 ⊢
            have hUt := th_u_bd hb0 hb1 hk hj hU
            have hto : ∀ y, th_u u k j (12 + y) = u (12 + y) := fun y => th_u_out (by omega)
            have hybt : yd < n 2 → th_u u k j (12 + yd) < c 5 yd := fun h => by rw [hto]; exact hyb h
            have hyct : ∀ y, y < yd → th_u u k j (12 + y) = c 5 y := fun y h => by rw [hto]; exact hyc y h
            have hRn := MR_fr hf_9 (by decide) hR
            have hpr := th_prod hB hk hj
            have hee := th_e_le (yd := yd) hB hk hj
            refine w_blk 1 (pc' := 98) (ls' := [some (.ref 53), some (.int (nI k)), some (.int (nI j)), none, none, none]) (sk' := [.ref 53]) (st' := s7) (fun _ h => h) ?_
            refine w_callV (As := [.ref 53]) (rest := []) rfl rfl rfl (Nat.le_of_ble_eq_true rfl) (Nat.le_of_ble_eq_true rfl) (by first | exact Or.inl ⟨rfl, rfl⟩ | exact Or.inr ⟨rfl, rfl⟩) (m_yardNow (d + 1) n c v (th_u u k j) yd s7 hRn hM_8 hB hyd hybt hyct) ?_
            refine w_blk 4 (pc' := 107) (ls' := [some (.ref 53), some (.int (nI k)), some (.int (nI j)), some (.int (nI yd)), none, none]) (sk' := [.int (nI k), .ref 56]) (st' := s7) (fun _ h => h) ?_
            refine w_iald rfl rfl (vp_in_nI (n := k) (N := 12) (by omega) (by decide)) ?_
            rw [nI_clamp (show k < 2 ^ 31 by omega)]
            rw [(hRn.2.2.2.1 k (by omega)).1]
            refine w_blk 3 (pc' := 113) (ls' := [some (.ref 53), some (.int (nI k)), some (.int (nI j)), some (.int (nI yd)), none, none]) (sk' := [.int (nI j), .ref 60, .int (nI (c 0 k))]) (st' := s7) (fun _ h => h) ?_
            refine w_iald rfl rfl (vp_in_nI (n := j) (N := 16) (by omega) (by decide)) ?_
            rw [nI_clamp (show j < 2 ^ 31 by omega)]
            rw [(hRn.2.2.2.2.1 j (by omega)).1]
            refine w_blk 1 (pc' := 115) (ls' := [some (.ref 53), some (.int (nI k)), some (.int (nI j)), some (.int (nI yd)), none, none]) (sk' := [.int ((nI (c 0 k)) * (nI (c 3 j)))]) (st' := s7) (fun _ h => h) ?_
            rw [show ((nI (c 0 k)) * (nI (c 3 j))) = nI ((c 0 k) * (c 3 j)) from pk_mul (c 0 k) (c 3 j)]
            refine w_blk 5 (pc' := 123) (ls' := [some (.ref 53), some (.int (nI k)), some (.int (nI j)), some (.int (nI yd)), some (.int (nI ((c 0 k) * (c 3 j)))), none]) (sk' := [.int 0, .ref 62, .int (nI yd)]) (st' := s7) (fun _ h => h) ?_
            refine w_iald rfl rfl (vp_in_nI (n := 0) (N := 2) (by decide) (by decide)) ?_
            rw [show Int32.toNatClampNeg (0 : Int32) = 0 from rfl]
            rw [hRn.2.2.1]
            refine w_cmp_ge rfl (fun h8 => ?_) (fun h8 => ?_)
            · replace h8 : n 2 ≤ yd := (nI_leI (a := (n 2)) (b := yd) (by omega) (by omega)).mp h8
              refine w_blk 1 (pc' := 224) (ls' := [some (.ref 53), some (.int (nI k)), some (.int (nI j)), some (.int (nI yd)), some (.int (nI ((c 0 k) * (c 3 j)))), none]) (sk' := [.int (nI ((c 0 k) * (c 3 j)))]) (st' := s7) (fun _ h => h) ?_
              rw [show tw_v n c v u yd (nI k) (nI j) = dg_v n c v (th_u u k j) yd (th_e n c yd k j) by unfold tw_v; rw [if_pos hyes, nI_clamp (show k < 2 ^ 31 by omega), nI_clamp (show j < 2 ^ 31 by omega)], show tw_u n c u yd (nI k) (nI j) = dg_u n c (th_u u k j) yd (th_e n c yd k j) by unfold tw_u; rw [if_pos hyes, nI_clamp (show k < 2 ^ 31 by omega), nI_clamp (show j < 2 ^ 31 by omega)], show sp_throw n c u yd (nI k) (nI j) = nI (th_e n c yd k j) by unfold sp_throw; rw [if_pos (nI_in3 (by omega) hk), if_pos (nI_in3 (by omega) hj), nI_clamp (show k < 2 ^ 31 by omega), nI_clamp (show j < 2 ^ 31 by omega), if_pos hcan]] at hq
              rw [show th_e n c yd k j = c 0 k * c 3 j from if_neg (by omega)] at hq
              exact w_iret rfl rfl rfl (hq _ ⟨by unfold dg_v dg_u; rw [if_neg (by omega), if_neg (by omega)]; exact hM_8, hf_9⟩)
            · replace h8 : ¬ (n 2 ≤ yd) := fun hh => h8 ((nI_leI (a := (n 2)) (b := yd) (by omega) (by omega)).mpr hh)
              have hy2 : yd < n 2 := by omega
              have h6s := (hby yd hy2).2.2
              have hdp := (hby yd hy2).2.1
              have hz := hybt hy2
              have hdv : c 0 k * c 3 j / c 6 yd ≤ c 0 k * c 3 j := Nat.div_le_self _ _
              have hte : th_e n c yd k j = max 1 (c 0 k * c 3 j / c 6 yd) := if_pos hy2
              rw [show tw_v n c v u yd (nI k) (nI j) = dg_v n c v (th_u u k j) yd (th_e n c yd k j) by unfold tw_v; rw [if_pos hyes, nI_clamp (show k < 2 ^ 31 by omega), nI_clamp (show j < 2 ^ 31 by omega)], show tw_u n c u yd (nI k) (nI j) = dg_u n c (th_u u k j) yd (th_e n c yd k j) by unfold tw_u; rw [if_pos hyes, nI_clamp (show k < 2 ^ 31 by omega), nI_clamp (show j < 2 ^ 31 by omega)], show sp_throw n c u yd (nI k) (nI j) = nI (th_e n c yd k j) by unfold sp_throw; rw [if_pos (nI_in3 (by omega) hk), if_pos (nI_in3 (by omega) hj), nI_clamp (show k < 2 ^ 31 by omega), nI_clamp (show j < 2 ^ 31 by omega), if_pos hcan]] at hq
              have J : mW (mMC mT (d + 2)) (0, fun _ => 0) (mAtL P_X10_throwWith) (some .int) Q 153 [some (.ref 53), some (.int (nI k)), some (.int (nI j)), some (.int (nI yd)), some (.int (nI ((c 0 k) * (c 3 j)))), none] [.int (nI (th_e n c yd k j))] s7 := by
                refine w_blk 4 (pc' := 160) (ls' := [some (.ref 53), some (.int (nI k)), some (.int (nI j)), some (.int (nI yd)), some (.int (nI (th_e n c yd k j))), none]) (sk' := [.int (nI yd), .ref 63]) (st' := s7) (fun _ h => h) ?_
                refine w_iald rfl rfl (vp_in_nI (n := yd) (N := 16) (by omega) (by decide)) ?_
                rw [nI_clamp (show yd < 2 ^ 31 by omega)]
                rw [(hRn.2.2.2.2.2 yd (by omega)).1]
                refine w_blk 5 (pc' := 169) (ls' := [some (.ref 53), some (.int (nI k)), some (.int (nI j)), some (.int (nI yd)), some (.int (nI (th_e n c yd k j))), none]) (sk' := [.int (12 + (nI yd)), .ref 65, .int (nI (c 5 yd))]) (st' := s7) (fun _ h => h) ?_
                rw [show (12 + (nI yd)) = nI (12 + yd) from nI_add 12 yd]
                refine w_iald rfl rfl (vp_in_nI (n := (12 + yd)) (N := 60) (by omega) (by decide)) ?_
                rw [nI_clamp (show (12 + yd) < 2 ^ 31 by omega)]
                rw [hM_8.2 (12 + yd) (by omega) (by omega)]
                refine w_blk 1 (pc' := 171) (ls' := [some (.ref 53), some (.int (nI k)), some (.int (nI j)), some (.int (nI yd)), some (.int (nI (th_e n c yd k j))), none]) (sk' := [.int ((nI (c 5 yd)) - (nI (th_u u k j (12 + yd))))]) (st' := s7) (fun _ h => h) ?_
                rw [show ((nI (c 5 yd)) - (nI (th_u u k j (12 + yd)))) = nI ((c 5 yd) - (th_u u k j (12 + yd))) from pk_sub (a := c 5 yd) (b := th_u u k j (12 + yd)) (by omega)]
                refine w_blk 6 (pc' := 181) (ls' := [some (.ref 53), some (.int (nI k)), some (.int (nI j)), some (.int (nI yd)), some (.int (nI (th_e n c yd k j))), some (.int (nI ((c 5 yd) - (th_u u k j (12 + yd)))))]) (sk' := [.int (12 + (nI yd)), .ref 65]) (st' := s7) (fun _ h => h) ?_
                rw [show (12 + (nI yd)) = nI (12 + yd) from nI_add 12 yd]
                refine w_blk 1 (pc' := 182) (ls' := [some (.ref 53), some (.int (nI k)), some (.int (nI j)), some (.int (nI yd)), some (.int (nI (th_e n c yd k j))), some (.int (nI ((c 5 yd) - (th_u u k j (12 + yd)))))]) (sk' := [.int (nI (12 + yd)), .ref 65, .int (nI (12 + yd)), .ref 65]) (st' := s7) (fun _ h => h) ?_
                refine w_iald rfl rfl (vp_in_nI (n := (12 + yd)) (N := 60) (by omega) (by decide)) ?_
                rw [nI_clamp (show (12 + yd) < 2 ^ 31 by omega)]
                rw [hM_8.2 (12 + yd) (by omega) (by omega)]
                refine w_blk 2 (pc' := 187) (ls' := [some (.ref 53), some (.int (nI k)), some (.int (nI j)), some (.int (nI yd)), some (.int (nI (th_e n c yd k j))), some (.int (nI ((c 5 yd) - (th_u u k j (12 + yd)))))]) (sk' := [.int (nI ((c 5 yd) - (th_u u k j (12 + yd)))), .int (nI (th_e n c yd k j)), .int (nI (th_u u k j (12 + yd))), .int (nI (12 + yd)), .ref 65]) (st' := s7) (fun _ h => h) ?_
                have hmin : dg_a c (th_u u k j) yd (th_e n c yd k j) = th_u u k j (12 + yd) + min (th_e n c yd k j) (c 5 yd - th_u u k j (12 + yd)) := by unfold dg_a; omega
                have J2 : mW (mMC mT (d + 2)) (0, fun _ => 0) (mAtL P_X10_throwWith) (some .int) Q 197 [some (.ref 53), some (.int (nI k)), some (.int (nI j)), some (.int (nI yd)), some (.int (nI (th_e n c yd k j))), some (.int (nI ((c 5 yd) - (th_u u k j (12 + yd)))))] [.int (nI (min (th_e n c yd k j) (c 5 yd - th_u u k j (12 + yd)))), .int (nI (th_u u k j (12 + yd))), .int (nI (12 + yd)), .ref 65] s7 := by
                  refine w_blk 1 (pc' := 198) (ls' := [some (.ref 53), some (.int (nI k)), some (.int (nI j)), some (.int (nI yd)), some (.int (nI (th_e n c yd k j))), some (.int (nI ((c 5 yd) - (th_u u k j (12 + yd)))))]) (sk' := [.int ((nI (th_u u k j (12 + yd))) + (nI (min (th_e n c yd k j) (c 5 yd - th_u u k j (12 + yd))))), .int (nI (12 + yd)), .ref 65]) (st' := s7) (fun _ h => h) ?_
                  rw [show ((nI (th_u u k j (12 + yd))) + (nI (min (th_e n c yd k j) (c 5 yd - th_u u k j (12 + yd))))) = nI ((th_u u k j (12 + yd)) + (min (th_e n c yd k j) (c 5 yd - th_u u k j (12 + yd)))) from nI_add (th_u u k j (12 + yd)) (min (th_e n c yd k j) (c 5 yd - th_u u k j (12 + yd)))]
                  refine w_iast rfl rfl (vp_in_nI (n := (12 + yd)) (N := 60) (by omega) (by decide)) ?_
                  rw [nI_clamp (show (12 + yd) < 2 ^ 31 by omega)]
                  have hM_11 : NM0 ((mU s7.1 65 (12 + yd) (nI ((th_u u k j (12 + yd)) + (min (th_e n c yd k j) (c 5 yd - th_u u k j (12 + yd)))))), s7.2) v (dg_u n c (th_u u k j) yd (th_e n c yd k j)) := (by have hh := NM0_u hM_8 (12 + yd) (th_u u k j (12 + yd) + (min (th_e n c yd k j) (c 5 yd - th_u u k j (12 + yd)))) (by omega); rw [show dg_u n c (th_u u k j) yd (th_e n c yd k j) = updN (th_u u k j) (12 + yd) (th_u u k j (12 + yd) + (min (th_e n c yd k j) (c 5 yd - th_u u k j (12 + yd)))) from (if_pos hy2).trans (by rw [hmin])]; exact hh)
                  have hf_12 : Fr [65] st ((mU s7.1 65 (12 + yd) (nI ((th_u u k j (12 + yd)) + (min (th_e n c yd k j) (c 5 yd - th_u u k j (12 + yd)))))), s7.2) := (Fr.trans hf_9 (Fr.mU (by decide)))
                  generalize ((mU s7.1 65 (12 + yd) (nI ((th_u u k j (12 + yd)) + (min (th_e n c yd k j) (c 5 yd - th_u u k j (12 + yd)))))), s7.2) = s10 at hM_11 hf_12 ⊢
                  refine w_blk 4 (pc' := 205) (ls' := [some (.ref 53), some (.int (nI k)), some (.int (nI j)), some (.int (nI yd)), some (.int (nI (th_e n c yd k j))), some (.int (nI ((c 5 yd) - (th_u u k j (12 + yd)))))]) (sk' := [.int 2, .ref 65, .int 2, .ref 65]) (st' := s10) (fun _ h => h) ?_
                  refine w_iald rfl rfl (vp_in_nI (n := 2) (N := 60) (by decide) (by decide)) ?_
                  rw [show Int32.toNatClampNeg (2 : Int32) = 2 from rfl]
                  rw [hM_11.1 2 (by omega)]
                  refine w_blk 2 (pc' := 210) (ls' := [some (.ref 53), some (.int (nI k)), some (.int (nI j)), some (.int (nI yd)), some (.int (nI (th_e n c yd k j))), some (.int (nI ((c 5 yd) - (th_u u k j (12 + yd)))))]) (sk' := [.int (nI ((c 5 yd) - (th_u u k j (12 + yd)))), .int (nI (th_e n c yd k j)), .int (v 2), .int 2, .ref 65]) (st' := s10) (fun _ h => h) ?_
                  have J3 : mW (mMC mT (d + 2)) (0, fun _ => 0) (mAtL P_X10_throwWith) (some .int) Q 220 [some (.ref 53), some (.int (nI k)), some (.int (nI j)), some (.int (nI yd)), some (.int (nI (th_e n c yd k j))), some (.int (nI ((c 5 yd) - (th_u u k j (12 + yd)))))] [.int (nI (min (th_e n c yd k j) (c 5 yd - th_u u k j (12 + yd)))), .int (v 2), .int 2, .ref 65] s10 := by
                    refine w_blk 1 (pc' := 221) (ls' := [some (.ref 53), some (.int (nI k)), some (.int (nI j)), some (.int (nI yd)), some (.int (nI (th_e n c yd k j))), some (.int (nI ((c 5 yd) - (th_u u k j (12 + yd)))))]) (sk' := [.int ((v 2) + (nI (min (th_e n c yd k j) (c 5 yd - th_u u k j (12 + yd))))), .int 2, .ref 65]) (st' := s10) (fun _ h => h) ?_
                    refine w_iast rfl rfl (vp_in_nI (n := 2) (N := 60) (by decide) (by decide)) ?_
                    rw [show Int32.toNatClampNeg (2 : Int32) = 2 from rfl]
                    have hM_14 : NM0 ((mU s10.1 65 2 ((v 2) + (nI (min (th_e n c yd k j) (c 5 yd - th_u u k j (12 + yd)))))), s10.2) (dg_v n c v (th_u u k j) yd (th_e n c yd k j)) (dg_u n c (th_u u k j) yd (th_e n c yd k j)) := (by have hh := NM0_v hM_11 2 (v 2 + nI (min (th_e n c yd k j) (c 5 yd - th_u u k j (12 + yd)))) (by decide); rw [show dg_v n c v (th_u u k j) yd (th_e n c yd k j) = updI v 2 (v 2 + nI (min (th_e n c yd k j) (c 5 yd - th_u u k j (12 + yd)))) from (if_pos hy2).trans (by rw [hmin, Nat.add_sub_cancel_left])]; exact hh)
                    have hf_15 : Fr [65] st ((mU s10.1 65 2 ((v 2) + (nI (min (th_e n c yd k j) (c 5 yd - th_u u k j (12 + yd)))))), s10.2) := (Fr.trans hf_12 (Fr.mU (by decide)))
                    generalize ((mU s10.1 65 2 ((v 2) + (nI (min (th_e n c yd k j) (c 5 yd - th_u u k j (12 + yd)))))), s10.2) = s13 at hM_14 hf_15 ⊢
                    refine w_blk 1 (pc' := 224) (ls' := [some (.ref 53), some (.int (nI k)), some (.int (nI j)), some (.int (nI yd)), some (.int (nI (th_e n c yd k j))), some (.int (nI ((c 5 yd) - (th_u u k j (12 + yd)))))]) (sk' := [.int (nI (th_e n c yd k j))]) (st' := s13) (fun _ h => h) ?_
                    exact w_iret rfl rfl rfl (hq _ ⟨hM_14, hf_15⟩)
                  refine w_cmp_ge rfl (fun h9 => ?_) (fun h9 => ?_)
                  · replace h9 : (c 5 yd) - (th_u u k j (12 + yd)) ≤ th_e n c yd k j := (nI_leI (a := ((c 5 yd) - (th_u u k j (12 + yd)))) (b := (th_e n c yd k j)) (by omega) (by omega)).mp h9
                    refine w_blk 1 (pc' := 220) (ls' := [some (.ref 53), some (.int (nI k)), some (.int (nI j)), some (.int (nI yd)), some (.int (nI (th_e n c yd k j))), some (.int (nI ((c 5 yd) - (th_u u k j (12 + yd)))))]) (sk' := [.int (nI ((c 5 yd) - (th_u u k j (12 + yd)))), .int (v 2), .int 2, .ref 65]) (st' := s10) (fun _ h => h) ?_
                    exact (by have hh := J3; rw [show min (th_e n c yd k j) (c 5 yd - th_u u k j (12 + yd)) = c 5 yd - th_u u k j (12 + yd) by omega] at hh; exact hh)
                  · replace h9 : ¬ ((c 5 yd) - (th_u u k j (12 + yd)) ≤ th_e n c yd k j) := fun hh => h9 ((nI_leI (a := ((c 5 yd) - (th_u u k j (12 + yd)))) (b := (th_e n c yd k j)) (by omega) (by omega)).mpr hh)
                    refine w_blk 2 (pc' := 220) (ls' := [some (.ref 53), some (.int (nI k)), some (.int (nI j)), some (.int (nI yd)), some (.int (nI (th_e n c yd k j))), some (.int (nI ((c 5 yd) - (th_u u k j (12 + yd)))))]) (sk' := [.int (nI (th_e n c yd k j)), .int (v 2), .int 2, .ref 65]) (st' := s10) (fun _ h => h) ?_
                    exact (by have hh := J3; rw [show min (th_e n c yd k j) (c 5 yd - th_u u k j (12 + yd)) = th_e n c yd k j by omega] at hh; exact hh)
                refine w_cmp_ge rfl (fun h9 => ?_) (fun h9 => ?_)
                · replace h9 : (c 5 yd) - (th_u u k j (12 + yd)) ≤ th_e n c yd k j := (nI_leI (a := ((c 5 yd) - (th_u u k j (12 + yd)))) (b := (th_e n c yd k j)) (by omega) (by omega)).mp h9
                  refine w_blk 1 (pc' := 197) (ls' := [some (.ref 53), some (.int (nI k)), some (.int (nI j)), some (.int (nI yd)), some (.int (nI (th_e n c yd k j))), some (.int (nI ((c 5 yd) - (th_u u k j (12 + yd)))))]) (sk' := [.int (nI ((c 5 yd) - (th_u u k j (12 + yd)))), .int (nI (th_u u k j (12 + yd))), .int (nI (12 + yd)), .ref 65]) (st' := s7) (fun _ h => h) ?_
                  exact (by have hh := J2; rw [show min (th_e n c yd k j) (c 5 yd - th_u u k j (12 + yd)) = c 5 yd - th_u u k j (12 + yd) by omega] at hh; exact hh)
                · replace h9 : ¬ ((c 5 yd) - (th_u u k j (12 + yd)) ≤ th_e n c yd k j) := fun hh => h9 ((nI_leI (a := ((c 5 yd) - (th_u u k j (12 + yd)))) (b := (th_e n c yd k j)) (by omega) (by omega)).mpr hh)
                  refine w_blk 2 (pc' := 197) (ls' := [some (.ref 53), some (.int (nI k)), some (.int (nI j)), some (.int (nI yd)), some (.int (nI (th_e n c yd k j))), some (.int (nI ((c 5 yd) - (th_u u k j (12 + yd)))))]) (sk' := [.int (nI (th_e n c yd k j)), .int (nI (th_u u k j (12 + yd))), .int (nI (12 + yd)), .ref 65]) (st' := s7) (fun _ h => h) ?_
                  exact (by have hh := J2; rw [show min (th_e n c yd k j) (c 5 yd - th_u u k j (12 + yd)) = th_e n c yd k j by omega] at hh; exact hh)
              refine w_blk 4 (pc' := 134) (ls' := [some (.ref 53), some (.int (nI k)), some (.int (nI j)), some (.int (nI yd)), some (.int (nI ((c 0 k) * (c 3 j)))), none]) (sk' := [.int (nI yd), .ref 64, .int (nI ((c 0 k) * (c 3 j)))]) (st' := s7) (fun _ h => h) ?_
              refine w_iald rfl rfl (vp_in_nI (n := yd) (N := 16) (by omega) (by decide)) ?_
              rw [nI_clamp (show yd < 2 ^ 31 by omega)]
              rw [(hRn.2.2.2.2.2 yd (by omega)).2]
              refine w_div rfl (nI_ne0 (n := c 6 yd) (by omega) (by omega)) ?_
              rw [show ((nI ((c 0 k) * (c 3 j))) / (nI (c 6 yd))) = nI (((c 0 k) * (c 3 j)) / (c 6 yd)) from pk_div (by omega) (by omega) (by omega)]
              refine w_blk 1 (pc' := 137) (ls' := [some (.ref 53), some (.int (nI k)), some (.int (nI j)), some (.int (nI yd)), some (.int (nI ((c 0 k) * (c 3 j)))), none]) (sk' := [.int 1, .int (nI (((c 0 k) * (c 3 j)) / (c 6 yd)))]) (st' := s7) (fun _ h => h) ?_
              refine w_cmp_ge rfl (fun h9 => ?_) (fun h9 => ?_)
              · replace h9 : 1 ≤ ((c 0 k) * (c 3 j)) / (c 6 yd) := (nI_leI (a := 1) (b := (((c 0 k) * (c 3 j)) / (c 6 yd))) (by omega) (by omega)).mp h9
                refine w_blk 4 (pc' := 151) (ls' := [some (.ref 53), some (.int (nI k)), some (.int (nI j)), some (.int (nI yd)), some (.int (nI ((c 0 k) * (c 3 j)))), none]) (sk' := [.int (nI yd), .ref 64, .int (nI ((c 0 k) * (c 3 j)))]) (st' := s7) (fun _ h => h) ?_
                refine w_iald rfl rfl (vp_in_nI (n := yd) (N := 16) (by omega) (by decide)) ?_
                rw [nI_clamp (show yd < 2 ^ 31 by omega)]
                rw [(hRn.2.2.2.2.2 yd (by omega)).2]
                refine w_div rfl (nI_ne0 (n := c 6 yd) (by omega) (by omega)) ?_
                rw [show ((nI ((c 0 k) * (c 3 j))) / (nI (c 6 yd))) = nI (((c 0 k) * (c 3 j)) / (c 6 yd)) from pk_div (by omega) (by omega) (by omega)]
                exact (by have hh := J; rw [show th_e n c yd k j = c 0 k * c 3 j / c 6 yd by omega] at hh; exact hh)
              · replace h9 : ¬ (1 ≤ ((c 0 k) * (c 3 j)) / (c 6 yd)) := fun hh => h9 ((nI_leI (a := 1) (b := (((c 0 k) * (c 3 j)) / (c 6 yd))) (by omega) (by omega)).mpr hh)
                refine w_blk 2 (pc' := 153) (ls' := [some (.ref 53), some (.int (nI k)), some (.int (nI j)), some (.int (nI yd)), some (.int (nI ((c 0 k) * (c 3 j)))), none]) (sk' := [.int 1]) (st' := s7) (fun _ h => h) ?_
                exact (by have hh := J; rw [show th_e n c yd k j = 1 by omega] at hh; exact hh)
          · replace h7 := pI_eq1.mp (Decidable.not_not.mp h7)
            refine w_blk 1 (pc' := 57) (ls' := [some (.ref 53), some (.int (nI k)), some (.int (nI j)), none, none, none]) (sk' := [.int (-2)]) (st' := st) (fun _ h => h) ?_
            have h3 : ¬ canP c u k j := fun h => absurd h7 (tb_false.mpr h.2.2)
            have hno : ¬ thC n c u (nI k) (nI j) := fun h => h3 ((thC_iff (by omega) (by omega) hk hj).mp h)
            rw [show tw_v n c v u yd (nI k) (nI j) = v from if_neg hno, show tw_u n c u yd (nI k) (nI j) = u from if_neg hno, show sp_throw n c u yd (nI k) (nI j) = -2 from by unfold sp_throw; rw [if_pos (nI_in3 (by omega) hk), if_pos (nI_in3 (by omega) hj), nI_clamp (show k < 2 ^ 31 by omega), nI_clamp (show j < 2 ^ 31 by omega), if_neg h3]] at hq
            exact w_iret rfl rfl rfl (hq _ ⟨hM, Fr.rf⟩)
    · replace h2 := pI_eq0.mp (Decidable.not_not.mp h2)
      refine w_blk 1 (pc' := 17) (ls' := [some (.ref 53), some (.int (nI k)), some (.int y), none, none, none]) (sk' := [.int (-1)]) (st' := st) (fun _ h => h) ?_
      have hno : ¬ thC n c u (nI k) y := fun h => h2 h.2.1
      rw [show tw_v n c v u yd (nI k) y = v from if_neg hno, show tw_u n c u yd (nI k) y = u from if_neg hno, show sp_throw n c u yd (nI k) y = -1 from (if_pos (nI_in3 (by omega) hk)).trans (if_neg h2)] at hq
      exact w_iret rfl rfl rfl (hq _ ⟨hM, Fr.rf⟩)
