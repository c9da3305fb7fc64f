/-! GANG of the class, the call -/
set_option maxRecDepth 20000 in
/-- forget() -/
theorem c_forget (d : Nat) (st : mSt) : mMC mT (d + 1) 79 [.ref 49] st (none) ((mU st.1 49 0 0), st.2) := by
  refine mI_X8_forget (d := d + 0) (Nat.le_of_ble_eq_true rfl) (fun Q hq => ?_)
  show mW (mMC mT (d + 0)) (0, fun _ => 0) (mAtL P_X8_forget) none Q 0 [some (.ref 49)] [] st
  refine w_blk 3 (pc' := 5) (ls' := [some (.ref 49)]) (sk' := []) (st' := ((mU st.1 49 0 0), st.2)) (fun _ h => h) ?_
  exact w_vret rfl rfl hq
set_option maxRecDepth 20000 in
/-- gang() -/
theorem x_gang_5 (d : Nat) (L : Nat) (b : Nat → Nat) (st : mSt) (hcw : st.1 0 1 = nI 5) (hdw : st.1 0 2 = nI 13) (hP : XS st L b) (hb : ∀ j, j < L → b j < 256) (hL : L ≤ 300) : ∃ (q : RQ) (s : mSt), mMC mT (d + 10) 87 [.ref 0] st (some (.int (gA b L q))) s ∧ RDR (TT b L) q ∧ (q.p.2 = true → FG [1, 3, 4, 13, 14, 15, 16, 17, 18, 19, 20] st s) ∧ (q.p.2 = false → s.1 0 1 = nI 13 ∧ s.1 0 2 = nI 5 ∧ X13 s q.n q.c ∧ N21 s (fun _ => 0) (fun _ => 0) 0 ∧ s.1 1 0 = 0 ∧ s.1 49 0 = 0 ∧ s.1 0 5 = 0 ∧ Fr [0, 1, 2, 3, 4, 13, 14, 15, 16, 17, 18, 19, 20, 21, 22, 23, 49] st s ∧ s.2 0 = st.2 0) := by
  suffices H : ∀ Q : Option Value → mSt → Prop, (∀ (q : RQ) (s : mSt), (RDR (TT b L) q ∧ (q.p.2 = true → FG [1, 3, 4, 13, 14, 15, 16, 17, 18, 19, 20] st s) ∧ (q.p.2 = false → s.1 0 1 = nI 13 ∧ s.1 0 2 = nI 5 ∧ X13 s q.n q.c ∧ N21 s (fun _ => 0) (fun _ => 0) 0 ∧ s.1 1 0 = 0 ∧ s.1 49 0 = 0 ∧ s.1 0 5 = 0 ∧ Fr [0, 1, 2, 3, 4, 13, 14, 15, 16, 17, 18, 19, 20, 21, 22, 23, 49] st s ∧ s.2 0 = st.2 0)) → Q (some (.int (gA b L q))) s) → mW (mMC mT (d + 9)) (0, fun _ => 0) (mAtL P_X9_gang) (some .int) Q 0 [some (.ref 0), none, none] [] st by
    obtain ⟨_, _, ⟨q, s, rfl, rfl, hp⟩, hw⟩ := mW_ex (H (fun vv tt => ∃ (q : RQ) (s : mSt),  vv = some (.int (gA b L q)) ∧ s = tt ∧ RDR (TT b L) q ∧ (q.p.2 = true → FG [1, 3, 4, 13, 14, 15, 16, 17, 18, 19, 20] st s) ∧ (q.p.2 = false → s.1 0 1 = nI 13 ∧ s.1 0 2 = nI 5 ∧ X13 s q.n q.c ∧ N21 s (fun _ => 0) (fun _ => 0) 0 ∧ s.1 1 0 = 0 ∧ s.1 49 0 = 0 ∧ s.1 0 5 = 0 ∧ Fr [0, 1, 2, 3, 4, 13, 14, 15, 16, 17, 18, 19, 20, 21, 22, 23, 49] st s ∧ s.2 0 = st.2 0)) (fun q s hp => ⟨q, s, rfl, rfl, hp⟩))
    exact ⟨q, s, mI_X9_gang (d := d + 9) (Nat.le_of_ble_eq_true rfl) hw, hp⟩
  intro Q hq
  have hcr : (st.1 0 1).toNatClampNeg = 5 := by rw [hcw]; rfl
  have hdr : (st.1 0 2).toNatClampNeg = 13 := by rw [hdw]; rfl
  obtain ⟨q, s1, hc1, hrd, hX1, hf1⟩ := c_readInto_13 (d + 0) L b st hP hb hL
  have hpl := ps_le b L q.p.1
  have hcb := RDR_CB hrd
  obtain ⟨hb0, hb1, hb2, -⟩ := id hcb
  have hcw1 : s1.1 0 1 = nI 5 := by rw [hf1.1.1 0 (by decide)]; exact hcw
  have hdw1 : s1.1 0 2 = nI 13 := by rw [hf1.1.1 0 (by decide)]; exact hdw
  have hcr1 : (s1.1 0 1).toNatClampNeg = 5 := by rw [hcw1]; rfl
  have hdr1 : (s1.1 0 2).toNatClampNeg = 13 := by rw [hdw1]; rfl
  have hqq := hq q
  refine w_blk 3 (pc' := 5) (ls' := [some (.ref 0), none, none]) (sk' := [.ref 0, .ref 1]) (st' := st) (fun _ h => h) ?_
  refine w_blk 1 (pc' := 8) (ls' := [some (.ref 0), none, none]) (sk' := [.ref (Int32.toNatClampNeg (st.1 0 2)), .ref 1]) (st' := st) (fun _ h => h) ?_
  rw [show Int32.toNatClampNeg (st.1 0 2) = 13 from hdr]
  refine w_callV (As := [.ref 1, .ref 13]) (rest := []) rfl rfl rfl (Nat.le_of_ble_eq_true rfl) (Nat.le_of_ble_eq_true rfl) (by first | exact Or.inl ⟨rfl, rfl⟩ | exact Or.inr ⟨rfl, rfl⟩) hc1 ?_
  by_cases hf2 : q.p.2 = true
  · rw [show rI b L q = nI (ps b L q.p.1) from if_pos hf2]
    obtain ⟨z9, hz9⟩ : ∃ z9, -10 - nI (ps b L q.p.1) = z9 := ⟨_, rfl⟩
    rw [show gA b L q = z9 from (if_pos hf2).trans hz9] at hqq
    refine w_blk 3 (pc' := 14) (ls' := [some (.ref 0), some (.int (nI (ps b L q.p.1))), none]) (sk' := [.int (-1), .int (nI (ps b L q.p.1))]) (st' := s1) (fun _ h => h) ?_
    refine w_cmp_eq rfl (fun hno => absurd hno (nI1m (by omega))) (fun _ => ?_)
    refine w_blk 2 (pc' := 20) (ls' := [some (.ref 0), some (.int (nI (ps b L q.p.1))), none]) (sk' := [.int (nI (ps b L q.p.1)), .int (-10)]) (st' := s1) (fun _ h => h) ?_
    refine w_isub rfl hz9 ?_
    exact w_iret rfl rfl rfl (hqq s1 ⟨hrd, fun _ => hf1, fun h => absurd h (by rw [hf2]; decide)⟩)
  · have hff : q.p.2 = false := Bool.eq_false_iff.mpr hf2
    rw [show rI b L q = -1 from if_neg hf2]
    rw [show gA b L q = nI (tot q) from if_neg hf2] at hqq
    have hXg := hX1 hff
    refine w_blk 3 (pc' := 14) (ls' := [some (.ref 0), some (.int (-1)), none]) (sk' := [.int (-1), .int (-1)]) (st' := s1) (fun _ h => h) ?_
    refine w_cmp_eq rfl (fun _ => ?_) (fun hno => absurd rfl hno)
    refine w_blk 1 (pc' := 23) (ls' := [some (.ref 0), some (.int (-1)), none]) (sk' := [.ref 0]) (st' := s1) (fun _ h => h) ?_
    refine w_blk 1 (pc' := 26) (ls' := [some (.ref 0), some (.int (-1)), none]) (sk' := [.ref (Int32.toNatClampNeg (s1.1 0 1))]) (st' := s1) (fun _ h => h) ?_
    rw [show Int32.toNatClampNeg (s1.1 0 1) = 5 from hcr1]
    refine w_blk 3 (pc' := 29) (ls' := [some (.ref 0), some (.int (-1)), some (.ref 5)]) (sk' := [.ref 0, .ref 0]) (st' := s1) (fun _ h => h) ?_
    refine w_blk 1 (pc' := 32) (ls' := [some (.ref 0), some (.int (-1)), some (.ref 5)]) (sk' := [.ref (Int32.toNatClampNeg (s1.1 0 2)), .ref 0]) (st' := s1) (fun _ h => h) ?_
    rw [show Int32.toNatClampNeg (s1.1 0 2) = 13 from hdr1]
    refine w_blk 6 (pc' := 44) (ls' := [some (.ref 0), some (.int (-1)), some (.ref 5)]) (sk' := [.ref 1]) (st' := ((mU (mU s1.1 0 1 (nI 13)) 0 2 (nI 5)), s1.2)) (fun _ h => h) ?_
    have hP1 : XS ((mU (mU s1.1 0 1 (nI 13)) 0 2 (nI 5)), s1.2) L b := ⟨(show s1.1 1 0 = nI L from (hf1.2.1 0 (by decide)).trans hP.1), fun j hj => (show s1.1 2 j = nI (b j) from (congrFun (hf1.1.1 2 (by decide)) j).trans (hP.2 j hj))⟩
    obtain ⟨s2, hc2, hP2, hf2w, hk2w⟩ := c_wipe (d + 8) L b ((mU (mU s1.1 0 1 (nI 13)) 0 2 (nI 5)), s1.2) hP1
    refine w_callV (As := [.ref 1]) (rest := []) rfl rfl rfl (Nat.le_of_ble_eq_true rfl) (Nat.le_of_ble_eq_true rfl) (by first | exact Or.inl ⟨rfl, rfl⟩ | exact Or.inr ⟨rfl, rfl⟩) hc2 ?_
    refine w_blk 3 (pc' := 52) (ls' := [some (.ref 0), some (.int (-1)), some (.ref 5)]) (sk' := [.ref 21]) (st' := s2) (fun _ h => h) ?_
    obtain ⟨s3, hc3, hN3, hf3⟩ := c_reset (d + 7) s2
    refine w_callV (As := [.ref 21]) (rest := []) rfl rfl rfl (Nat.le_of_ble_eq_true rfl) (Nat.le_of_ble_eq_true rfl) (by first | exact Or.inl ⟨rfl, rfl⟩ | exact Or.inr ⟨rfl, rfl⟩) hc3 ?_
    refine w_blk 2 (pc' := 59) (ls' := [some (.ref 0), some (.int (-1)), some (.ref 5)]) (sk' := [.ref 49]) (st' := s3) (fun _ h => h) ?_
    refine w_callV (As := [.ref 49]) (rest := []) rfl rfl rfl (Nat.le_of_ble_eq_true rfl) (Nat.le_of_ble_eq_true rfl) (by first | exact Or.inl ⟨rfl, rfl⟩ | exact Or.inr ⟨rfl, rfl⟩) (c_forget (d + 8) s3) ?_
    refine w_blk 4 (pc' := 68) (ls' := [some (.ref 0), some (.int (-1)), some (.ref 5)]) (sk' := [.ref 0]) (st' := ((mU (mU s3.1 49 0 0) 0 5 0), s3.2)) (fun _ h => h) ?_
    have hg1 : s3.1 0 1 = nI 13 := by rw [hf3.1 0 (by decide), hf2w.1 0 (by decide)]; rfl
    have hg2 : s3.1 0 2 = nI 5 := by rw [hf3.1 0 (by decide), hf2w.1 0 (by decide)]; rfl
    have hfz : Fr [0, 1, 2, 21, 22, 23] s1 s3 := Fr.trans (Fr.trans (Fr.mU (by decide)) (Fr.mU (by decide)) : Fr [0, 1, 2, 21, 22, 23] s1 ((mU (mU s1.1 0 1 (nI 13)) 0 2 (nI 5)), s1.2)) (Fr.trans (Fr.mono hf2w (by decide)) (Fr.mono hf3 (by decide)))
    have hX3 : X13 s3 q.n q.c := X13_fr hfz (by decide) hXg
    have hG1_2 : (((mU (mU s3.1 49 0 0) 0 5 0), s3.2)).1 0 1 = nI 13 := hg1
    have hG2_3 : (((mU (mU s3.1 49 0 0) 0 5 0), s3.2)).1 0 2 = nI 5 := hg2
    have hX_4 : X13 ((mU (mU s3.1 49 0 0) 0 5 0), s3.2) q.n q.c := X13_fr (Fr.trans (Fr.mU (by decide)) (Fr.mU (by decide)) : Fr [0, 49] s3 ((mU (mU s3.1 49 0 0) 0 5 0), s3.2)) (by decide) hX3
    have hN_5 : N21 ((mU (mU s3.1 49 0 0) 0 5 0), s3.2) (fun _ => 0) (fun _ => 0) 0 := N21_fr (Fr.trans (Fr.mU (by decide)) (Fr.mU (by decide)) : Fr [0, 49] s3 ((mU (mU s3.1 49 0 0) 0 5 0), s3.2)) (by decide) hN3
    have hL_6 : (((mU (mU s3.1 49 0 0) 0 5 0), s3.2)).1 1 0 = 0 := ((congrFun (hf3.1 1 (by decide)) 0).trans (hP2.1.trans rfl))
    have hT_7 : (((mU (mU s3.1 49 0 0) 0 5 0), s3.2)).1 49 0 = 0 := rfl
    have hK_8 : (((mU (mU s3.1 49 0 0) 0 5 0), s3.2)).1 0 5 = 0 := rfl
    have hF_9 : Fr [0, 1, 2, 3, 4, 13, 14, 15, 16, 17, 18, 19, 20, 21, 22, 23, 49] st ((mU (mU s3.1 49 0 0) 0 5 0), s3.2) := (Fr.trans (Fr.mono hf1.1 (by decide)) (Fr.trans (Fr.mono hfz (by decide)) (Fr.trans (Fr.mU (by decide)) (Fr.mU (by decide)))))
    have hL0_10 : (((mU (mU s3.1 49 0 0) 0 5 0), s3.2)).2 0 = st.2 0 := ((hf3.2 0 (by decide)).trans ((hf2w.2 0 (by decide)).trans (congrFun hf1.2.2 0)))
    generalize ((mU (mU s3.1 49 0 0) 0 5 0), s3.2) = s1 at hG1_2 hG2_3 hX_4 hN_5 hL_6 hT_7 hK_8 hF_9 hL0_10 ⊢
    have hcr5 : (s1.1 0 1).toNatClampNeg = 13 := by rw [hG1_2]; rfl
    refine w_blk 1 (pc' := 71) (ls' := [some (.ref 0), some (.int (-1)), some (.ref 5)]) (sk' := [.ref (Int32.toNatClampNeg (s1.1 0 1))]) (st' := s1) (fun _ h => h) ?_
    rw [show Int32.toNatClampNeg (s1.1 0 1) = 13 from hcr5]
    refine w_blk 1 (pc' := 74) (ls' := [some (.ref 0), some (.int (-1)), some (.ref 5)]) (sk' := [.int (s1.1 13 0)]) (st' := s1) (fun _ h => h) ?_
    rw [hX_4.1]
    refine w_blk 1 (pc' := 75) (ls' := [some (.ref 0), some (.int (-1)), some (.ref 5)]) (sk' := [.ref 0, .int (nI (q.n 0))]) (st' := s1) (fun _ h => h) ?_
    refine w_blk 1 (pc' := 78) (ls' := [some (.ref 0), some (.int (-1)), some (.ref 5)]) (sk' := [.ref (Int32.toNatClampNeg (s1.1 0 1)), .int (nI (q.n 0))]) (st' := s1) (fun _ h => h) ?_
    rw [show Int32.toNatClampNeg (s1.1 0 1) = 13 from hcr5]
    refine w_blk 1 (pc' := 81) (ls' := [some (.ref 0), some (.int (-1)), some (.ref 5)]) (sk' := [.int (s1.1 13 1), .int (nI (q.n 0))]) (st' := s1) (fun _ h => h) ?_
    rw [hX_4.2.1]
    refine w_blk 1 (pc' := 82) (ls' := [some (.ref 0), some (.int (-1)), some (.ref 5)]) (sk' := [.int ((nI (q.n 0)) + (nI (q.n 1)))]) (st' := s1) (fun _ h => h) ?_
    rw [show ((nI (q.n 0)) + (nI (q.n 1))) = nI ((q.n 0) + (q.n 1)) from nI_add (q.n 0) (q.n 1)]
    refine w_blk 1 (pc' := 83) (ls' := [some (.ref 0), some (.int (-1)), some (.ref 5)]) (sk' := [.ref 0, .int (nI ((q.n 0) + (q.n 1)))]) (st' := s1) (fun _ h => h) ?_
    refine w_blk 1 (pc' := 86) (ls' := [some (.ref 0), some (.int (-1)), some (.ref 5)]) (sk' := [.ref (Int32.toNatClampNeg (s1.1 0 1)), .int (nI ((q.n 0) + (q.n 1)))]) (st' := s1) (fun _ h => h) ?_
    rw [show Int32.toNatClampNeg (s1.1 0 1) = 13 from hcr5]
    refine w_blk 1 (pc' := 89) (ls' := [some (.ref 0), some (.int (-1)), some (.ref 5)]) (sk' := [.int (s1.1 13 2), .int (nI ((q.n 0) + (q.n 1)))]) (st' := s1) (fun _ h => h) ?_
    rw [hX_4.2.2.1]
    refine w_blk 1 (pc' := 90) (ls' := [some (.ref 0), some (.int (-1)), some (.ref 5)]) (sk' := [.int ((nI ((q.n 0) + (q.n 1))) + (nI (q.n 2)))]) (st' := s1) (fun _ h => h) ?_
    rw [show ((nI ((q.n 0) + (q.n 1))) + (nI (q.n 2))) = nI (((q.n 0) + (q.n 1)) + (q.n 2)) from nI_add ((q.n 0) + (q.n 1)) (q.n 2)]
    rw [show ((q.n 0) + (q.n 1)) + (q.n 2) = tot q from rfl]
    exact w_iret rfl rfl rfl (hqq s1 ⟨hrd, fun h => absurd h hf2, fun _ => ⟨hG1_2, hG2_3, hX_4, hN_5, hL_6, hT_7, hK_8, hF_9, hL0_10⟩⟩)
set_option maxRecDepth 20000 in
/-- gang() -/
theorem x_gang_13 (d : Nat) (L : Nat) (b : Nat → Nat) (st : mSt) (hcw : st.1 0 1 = nI 13) (hdw : st.1 0 2 = nI 5) (hP : XS st L b) (hb : ∀ j, j < L → b j < 256) (hL : L ≤ 300) : ∃ (q : RQ) (s : mSt), mMC mT (d + 10) 87 [.ref 0] st (some (.int (gA b L q))) s ∧ RDR (TT b L) q ∧ (q.p.2 = true → FG [1, 3, 4, 5, 6, 7, 8, 9, 10, 11, 12] st s) ∧ (q.p.2 = false → s.1 0 1 = nI 5 ∧ s.1 0 2 = nI 13 ∧ X5 s q.n q.c ∧ N21 s (fun _ => 0) (fun _ => 0) 0 ∧ s.1 1 0 = 0 ∧ s.1 49 0 = 0 ∧ s.1 0 5 = 0 ∧ Fr [0, 1, 2, 3, 4, 5, 6, 7, 8, 9, 10, 11, 12, 21, 22, 23, 49] st s ∧ s.2 0 = st.2 0) := by
  suffices H : ∀ Q : Option Value → mSt → Prop, (∀ (q : RQ) (s : mSt), (RDR (TT b L) q ∧ (q.p.2 = true → FG [1, 3, 4, 5, 6, 7, 8, 9, 10, 11, 12] st s) ∧ (q.p.2 = false → s.1 0 1 = nI 5 ∧ s.1 0 2 = nI 13 ∧ X5 s q.n q.c ∧ N21 s (fun _ => 0) (fun _ => 0) 0 ∧ s.1 1 0 = 0 ∧ s.1 49 0 = 0 ∧ s.1 0 5 = 0 ∧ Fr [0, 1, 2, 3, 4, 5, 6, 7, 8, 9, 10, 11, 12, 21, 22, 23, 49] st s ∧ s.2 0 = st.2 0)) → Q (some (.int (gA b L q))) s) → mW (mMC mT (d + 9)) (0, fun _ => 0) (mAtL P_X9_gang) (some .int) Q 0 [some (.ref 0), none, none] [] st by
    obtain ⟨_, _, ⟨q, s, rfl, rfl, hp⟩, hw⟩ := mW_ex (H (fun vv tt => ∃ (q : RQ) (s : mSt),  vv = some (.int (gA b L q)) ∧ s = tt ∧ RDR (TT b L) q ∧ (q.p.2 = true → FG [1, 3, 4, 5, 6, 7, 8, 9, 10, 11, 12] st s) ∧ (q.p.2 = false → s.1 0 1 = nI 5 ∧ s.1 0 2 = nI 13 ∧ X5 s q.n q.c ∧ N21 s (fun _ => 0) (fun _ => 0) 0 ∧ s.1 1 0 = 0 ∧ s.1 49 0 = 0 ∧ s.1 0 5 = 0 ∧ Fr [0, 1, 2, 3, 4, 5, 6, 7, 8, 9, 10, 11, 12, 21, 22, 23, 49] st s ∧ s.2 0 = st.2 0)) (fun q s hp => ⟨q, s, rfl, rfl, hp⟩))
    exact ⟨q, s, mI_X9_gang (d := d + 9) (Nat.le_of_ble_eq_true rfl) hw, hp⟩
  intro Q hq
  have hcr : (st.1 0 1).toNatClampNeg = 13 := by rw [hcw]; rfl
  have hdr : (st.1 0 2).toNatClampNeg = 5 := by rw [hdw]; rfl
  obtain ⟨q, s1, hc1, hrd, hX1, hf1⟩ := c_readInto_5 (d + 0) L b st hP hb hL
  have hpl := ps_le b L q.p.1
  have hcb := RDR_CB hrd
  obtain ⟨hb0, hb1, hb2, -⟩ := id hcb
  have hcw1 : s1.1 0 1 = nI 13 := by rw [hf1.1.1 0 (by decide)]; exact hcw
  have hdw1 : s1.1 0 2 = nI 5 := by rw [hf1.1.1 0 (by decide)]; exact hdw
  have hcr1 : (s1.1 0 1).toNatClampNeg = 13 := by rw [hcw1]; rfl
  have hdr1 : (s1.1 0 2).toNatClampNeg = 5 := by rw [hdw1]; rfl
  have hqq := hq q
  refine w_blk 3 (pc' := 5) (ls' := [some (.ref 0), none, none]) (sk' := [.ref 0, .ref 1]) (st' := st) (fun _ h => h) ?_
  refine w_blk 1 (pc' := 8) (ls' := [some (.ref 0), none, none]) (sk' := [.ref (Int32.toNatClampNeg (st.1 0 2)), .ref 1]) (st' := st) (fun _ h => h) ?_
  rw [show Int32.toNatClampNeg (st.1 0 2) = 5 from hdr]
  refine w_callV (As := [.ref 1, .ref 5]) (rest := []) rfl rfl rfl (Nat.le_of_ble_eq_true rfl) (Nat.le_of_ble_eq_true rfl) (by first | exact Or.inl ⟨rfl, rfl⟩ | exact Or.inr ⟨rfl, rfl⟩) hc1 ?_
  by_cases hf2 : q.p.2 = true
  · rw [show rI b L q = nI (ps b L q.p.1) from if_pos hf2]
    obtain ⟨z9, hz9⟩ : ∃ z9, -10 - nI (ps b L q.p.1) = z9 := ⟨_, rfl⟩
    rw [show gA b L q = z9 from (if_pos hf2).trans hz9] at hqq
    refine w_blk 3 (pc' := 14) (ls' := [some (.ref 0), some (.int (nI (ps b L q.p.1))), none]) (sk' := [.int (-1), .int (nI (ps b L q.p.1))]) (st' := s1) (fun _ h => h) ?_
    refine w_cmp_eq rfl (fun hno => absurd hno (nI1m (by omega))) (fun _ => ?_)
    refine w_blk 2 (pc' := 20) (ls' := [some (.ref 0), some (.int (nI (ps b L q.p.1))), none]) (sk' := [.int (nI (ps b L q.p.1)), .int (-10)]) (st' := s1) (fun _ h => h) ?_
    refine w_isub rfl hz9 ?_
    exact w_iret rfl rfl rfl (hqq s1 ⟨hrd, fun _ => hf1, fun h => absurd h (by rw [hf2]; decide)⟩)
  · have hff : q.p.2 = false := Bool.eq_false_iff.mpr hf2
    rw [show rI b L q = -1 from if_neg hf2]
    rw [show gA b L q = nI (tot q) from if_neg hf2] at hqq
    have hXg := hX1 hff
    refine w_blk 3 (pc' := 14) (ls' := [some (.ref 0), some (.int (-1)), none]) (sk' := [.int (-1), .int (-1)]) (st' := s1) (fun _ h => h) ?_
    refine w_cmp_eq rfl (fun _ => ?_) (fun hno => absurd rfl hno)
    refine w_blk 1 (pc' := 23) (ls' := [some (.ref 0), some (.int (-1)), none]) (sk' := [.ref 0]) (st' := s1) (fun _ h => h) ?_
    refine w_blk 1 (pc' := 26) (ls' := [some (.ref 0), some (.int (-1)), none]) (sk' := [.ref (Int32.toNatClampNeg (s1.1 0 1))]) (st' := s1) (fun _ h => h) ?_
    rw [show Int32.toNatClampNeg (s1.1 0 1) = 13 from hcr1]
    refine w_blk 3 (pc' := 29) (ls' := [some (.ref 0), some (.int (-1)), some (.ref 13)]) (sk' := [.ref 0, .ref 0]) (st' := s1) (fun _ h => h) ?_
    refine w_blk 1 (pc' := 32) (ls' := [some (.ref 0), some (.int (-1)), some (.ref 13)]) (sk' := [.ref (Int32.toNatClampNeg (s1.1 0 2)), .ref 0]) (st' := s1) (fun _ h => h) ?_
    rw [show Int32.toNatClampNeg (s1.1 0 2) = 5 from hdr1]
    refine w_blk 6 (pc' := 44) (ls' := [some (.ref 0), some (.int (-1)), some (.ref 13)]) (sk' := [.ref 1]) (st' := ((mU (mU s1.1 0 1 (nI 5)) 0 2 (nI 13)), s1.2)) (fun _ h => h) ?_
    have hP1 : XS ((mU (mU s1.1 0 1 (nI 5)) 0 2 (nI 13)), s1.2) L b := ⟨(show s1.1 1 0 = nI L from (hf1.2.1 0 (by decide)).trans hP.1), fun j hj => (show s1.1 2 j = nI (b j) from (congrFun (hf1.1.1 2 (by decide)) j).trans (hP.2 j hj))⟩
    obtain ⟨s2, hc2, hP2, hf2w, hk2w⟩ := c_wipe (d + 8) L b ((mU (mU s1.1 0 1 (nI 5)) 0 2 (nI 13)), s1.2) hP1
    refine w_callV (As := [.ref 1]) (rest := []) rfl rfl rfl (Nat.le_of_ble_eq_true rfl) (Nat.le_of_ble_eq_true rfl) (by first | exact Or.inl ⟨rfl, rfl⟩ | exact Or.inr ⟨rfl, rfl⟩) hc2 ?_
    refine w_blk 3 (pc' := 52) (ls' := [some (.ref 0), some (.int (-1)), some (.ref 13)]) (sk' := [.ref 21]) (st' := s2) (fun _ h => h) ?_
    obtain ⟨s3, hc3, hN3, hf3⟩ := c_reset (d + 7) s2
    refine w_callV (As := [.ref 21]) (rest := []) rfl rfl rfl (Nat.le_of_ble_eq_true rfl) (Nat.le_of_ble_eq_true rfl) (by first | exact Or.inl ⟨rfl, rfl⟩ | exact Or.inr ⟨rfl, rfl⟩) hc3 ?_
    refine w_blk 2 (pc' := 59) (ls' := [some (.ref 0), some (.int (-1)), some (.ref 13)]) (sk' := [.ref 49]) (st' := s3) (fun _ h => h) ?_
    refine w_callV (As := [.ref 49]) (rest := []) rfl rfl rfl (Nat.le_of_ble_eq_true rfl) (Nat.le_of_ble_eq_true rfl) (by first | exact Or.inl ⟨rfl, rfl⟩ | exact Or.inr ⟨rfl, rfl⟩) (c_forget (d + 8) s3) ?_
    refine w_blk 4 (pc' := 68) (ls' := [some (.ref 0), some (.int (-1)), some (.ref 13)]) (sk' := [.ref 0]) (st' := ((mU (mU s3.1 49 0 0) 0 5 0), s3.2)) (fun _ h => h) ?_
    have hg1 : s3.1 0 1 = nI 5 := by rw [hf3.1 0 (by decide), hf2w.1 0 (by decide)]; rfl
    have hg2 : s3.1 0 2 = nI 13 := by rw [hf3.1 0 (by decide), hf2w.1 0 (by decide)]; rfl
    have hfz : Fr [0, 1, 2, 21, 22, 23] s1 s3 := Fr.trans (Fr.trans (Fr.mU (by decide)) (Fr.mU (by decide)) : Fr [0, 1, 2, 21, 22, 23] s1 ((mU (mU s1.1 0 1 (nI 5)) 0 2 (nI 13)), s1.2)) (Fr.trans (Fr.mono hf2w (by decide)) (Fr.mono hf3 (by decide)))
    have hX3 : X5 s3 q.n q.c := X5_fr hfz (by decide) hXg
    have hG1_2 : (((mU (mU s3.1 49 0 0) 0 5 0), s3.2)).1 0 1 = nI 5 := hg1
    have hG2_3 : (((mU (mU s3.1 49 0 0) 0 5 0), s3.2)).1 0 2 = nI 13 := hg2
    have hX_4 : X5 ((mU (mU s3.1 49 0 0) 0 5 0), s3.2) q.n q.c := X5_fr (Fr.trans (Fr.mU (by decide)) (Fr.mU (by decide)) : Fr [0, 49] s3 ((mU (mU s3.1 49 0 0) 0 5 0), s3.2)) (by decide) hX3
    have hN_5 : N21 ((mU (mU s3.1 49 0 0) 0 5 0), s3.2) (fun _ => 0) (fun _ => 0) 0 := N21_fr (Fr.trans (Fr.mU (by decide)) (Fr.mU (by decide)) : Fr [0, 49] s3 ((mU (mU s3.1 49 0 0) 0 5 0), s3.2)) (by decide) hN3
    have hL_6 : (((mU (mU s3.1 49 0 0) 0 5 0), s3.2)).1 1 0 = 0 := ((congrFun (hf3.1 1 (by decide)) 0).trans (hP2.1.trans rfl))
    have hT_7 : (((mU (mU s3.1 49 0 0) 0 5 0), s3.2)).1 49 0 = 0 := rfl
    have hK_8 : (((mU (mU s3.1 49 0 0) 0 5 0), s3.2)).1 0 5 = 0 := rfl
    have hF_9 : Fr [0, 1, 2, 3, 4, 5, 6, 7, 8, 9, 10, 11, 12, 21, 22, 23, 49] st ((mU (mU s3.1 49 0 0) 0 5 0), s3.2) := (Fr.trans (Fr.mono hf1.1 (by decide)) (Fr.trans (Fr.mono hfz (by decide)) (Fr.trans (Fr.mU (by decide)) (Fr.mU (by decide)))))
    have hL0_10 : (((mU (mU s3.1 49 0 0) 0 5 0), s3.2)).2 0 = st.2 0 := ((hf3.2 0 (by decide)).trans ((hf2w.2 0 (by decide)).trans (congrFun hf1.2.2 0)))
    generalize ((mU (mU s3.1 49 0 0) 0 5 0), s3.2) = s1 at hG1_2 hG2_3 hX_4 hN_5 hL_6 hT_7 hK_8 hF_9 hL0_10 ⊢
    have hcr5 : (s1.1 0 1).toNatClampNeg = 5 := by rw [hG1_2]; rfl
    refine w_blk 1 (pc' := 71) (ls' := [some (.ref 0), some (.int (-1)), some (.ref 13)]) (sk' := [.ref (Int32.toNatClampNeg (s1.1 0 1))]) (st' := s1) (fun _ h => h) ?_
    rw [show Int32.toNatClampNeg (s1.1 0 1) = 5 from hcr5]
    refine w_blk 1 (pc' := 74) (ls' := [some (.ref 0), some (.int (-1)), some (.ref 13)]) (sk' := [.int (s1.1 5 0)]) (st' := s1) (fun _ h => h) ?_
    rw [hX_4.1]
    refine w_blk 1 (pc' := 75) (ls' := [some (.ref 0), some (.int (-1)), some (.ref 13)]) (sk' := [.ref 0, .int (nI (q.n 0))]) (st' := s1) (fun _ h => h) ?_
    refine w_blk 1 (pc' := 78) (ls' := [some (.ref 0), some (.int (-1)), some (.ref 13)]) (sk' := [.ref (Int32.toNatClampNeg (s1.1 0 1)), .int (nI (q.n 0))]) (st' := s1) (fun _ h => h) ?_
    rw [show Int32.toNatClampNeg (s1.1 0 1) = 5 from hcr5]
    refine w_blk 1 (pc' := 81) (ls' := [some (.ref 0), some (.int (-1)), some (.ref 13)]) (sk' := [.int (s1.1 5 1), .int (nI (q.n 0))]) (st' := s1) (fun _ h => h) ?_
    rw [hX_4.2.1]
    refine w_blk 1 (pc' := 82) (ls' := [some (.ref 0), some (.int (-1)), some (.ref 13)]) (sk' := [.int ((nI (q.n 0)) + (nI (q.n 1)))]) (st' := s1) (fun _ h => h) ?_
    rw [show ((nI (q.n 0)) + (nI (q.n 1))) = nI ((q.n 0) + (q.n 1)) from nI_add (q.n 0) (q.n 1)]
    refine w_blk 1 (pc' := 83) (ls' := [some (.ref 0), some (.int (-1)), some (.ref 13)]) (sk' := [.ref 0, .int (nI ((q.n 0) + (q.n 1)))]) (st' := s1) (fun _ h => h) ?_
    refine w_blk 1 (pc' := 86) (ls' := [some (.ref 0), some (.int (-1)), some (.ref 13)]) (sk' := [.ref (Int32.toNatClampNeg (s1.1 0 1)), .int (nI ((q.n 0) + (q.n 1)))]) (st' := s1) (fun _ h => h) ?_
    rw [show Int32.toNatClampNeg (s1.1 0 1) = 5 from hcr5]
    refine w_blk 1 (pc' := 89) (ls' := [some (.ref 0), some (.int (-1)), some (.ref 13)]) (sk' := [.int (s1.1 5 2), .int (nI ((q.n 0) + (q.n 1)))]) (st' := s1) (fun _ h => h) ?_
    rw [hX_4.2.2.1]
    refine w_blk 1 (pc' := 90) (ls' := [some (.ref 0), some (.int (-1)), some (.ref 13)]) (sk' := [.int ((nI ((q.n 0) + (q.n 1))) + (nI (q.n 2)))]) (st' := s1) (fun _ h => h) ?_
    rw [show ((nI ((q.n 0) + (q.n 1))) + (nI (q.n 2))) = nI (((q.n 0) + (q.n 1)) + (q.n 2)) from nI_add ((q.n 0) + (q.n 1)) (q.n 2)]
    rw [show ((q.n 0) + (q.n 1)) + (q.n 2) = tot q from rfl]
    exact w_iret rfl rfl rfl (hqq s1 ⟨hrd, fun h => absurd h hf2, fun _ => ⟨hG1_2, hG2_3, hX_4, hN_5, hL_6, hT_7, hK_8, hF_9, hL0_10⟩⟩)
