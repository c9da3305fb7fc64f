/-! MOST of the class -/
set_option maxRecDepth 20000 in
/-- greatest(crew, present, r) -/
theorem c_greatest_5 (d : Nat) (n : Nat → Nat) (c : Nat → Nat → Nat) (v : Nat → Int32) (u : Nat → Nat) (yd : Nat) (r : Nat) (st : mSt) (hX : X5 st n c) (hB : CB n c) (hN : N21 st v u yd) (hU : ∀ j, 3 ≤ j → j < 12 → u j < 256) (hr1 : 1 ≤ r) (hr6 : r ≤ 6) : ∃ (s : mSt), mMC mT (d + 5) 31 [.ref 34, .ref 5, .ref 21, .int (nI r)] st (some (.int (iI (mst (EN n c u) (wF n c false) r (n 0) 48 (fun _ _ => false))))) s ∧ Fr [34, 35, 36, 37, 38, 39, 40, 41] st s := by
  suffices H : ∀ Q : Option Value → mSt → Prop, (∀ (s : mSt), Fr [34, 35, 36, 37, 38, 39, 40, 41] st s → Q (some (.int (iI (mst (EN n c u) (wF n c false) r (n 0) 48 (fun _ _ => false))))) s) → mW (mMC mT (d + 4)) (0, fun _ => 0) (mAtL P_X2_greatest) (some .int) Q 0 [some (.ref 34), some (.ref 5), some (.ref 21), some (.int (nI r)), none, none, none] [] st by
    obtain ⟨_, _, ⟨s, rfl, rfl, hp⟩, hw⟩ := mW_ex (H (fun vv tt => ∃ (s : mSt),  vv = some (.int (iI (mst (EN n c u) (wF n c false) r (n 0) 48 (fun _ _ => false)))) ∧ s = tt ∧ Fr [34, 35, 36, 37, 38, 39, 40, 41] st s) (fun s hp => ⟨s, rfl, rfl, hp⟩))
    exact ⟨s, mI_X2_greatest (d := d + 4) (Nat.le_of_ble_eq_true rfl) hw, hp⟩
  intro Q hq
  obtain ⟨hb0, hb1, hb2, hbd, hbs, hby⟩ := id hB
  have hww := wF_WB hB false
  obtain ⟨E, hEe⟩ : ∃ E, E = EN n c u := ⟨_, rfl⟩
  have hEn : ∀ d s, d < 6 → s < 8 → E d s = true → d < n 0 ∧ s < n 1 := fun d s _ _ h => EN_in (by rw [hEe] at h; exact h)
  refine w_blk 3 (pc' := 5) (ls' := [some (.ref 34), some (.ref 5), some (.ref 21), some (.int (nI r)), none, none, none]) (sk' := []) (st' := ((mU st.1 34 0 (nI r)), st.2)) (fun _ h => h) ?_
  have hF_2 : Fr [34, 35, 36, 37, 38, 39, 40, 41] st ((mU st.1 34 0 (nI r)), st.2) := (Fr.trans Fr.rf (Fr.mU (by decide)))
  have hRd_3 : (((mU st.1 34 0 (nI r)), st.2)).1 34 0 = nI r := mU_at (f := st.1) (p := 34) (k := 0)
  generalize ((mU st.1 34 0 (nI r)), st.2) = s1 at hF_2 hRd_3 ⊢
  obtain ⟨s2, hc2, hO2, hT2, hD2, hf2⟩ := c_lookH_5 (d + 0) n c v u yd s1 (X5_fr hF_2 (by decide) hX) hB (N21_fr hF_2 (by decide) hN) hU
  rw [← hEe] at hO2 hq
  have hF2 : Fr [34, 35, 36, 37, 38, 39, 40, 41] st s2 := Fr.trans hF_2 (Fr.mono hf2 (by decide))
  have hRd2 : s2.1 34 0 = nI r := by rw [hf2.1 34 (by decide)]; exact hRd_3
  refine w_blk 3 (pc' := 8) (ls' := [some (.ref 34), some (.ref 5), some (.ref 21), some (.int (nI r)), none, none, none]) (sk' := [.ref 21, .ref 5, .ref 34]) (st' := s1) (fun _ h => h) ?_
  refine w_callV (As := [.ref 34, .ref 5, .ref 21]) (rest := []) rfl rfl rfl (Nat.le_of_ble_eq_true rfl) (Nat.le_of_ble_eq_true rfl) (by first | exact Or.inl ⟨rfl, rfl⟩ | exact Or.inr ⟨rfl, rfl⟩) hc2 ?_
  refine w_blk 4 (pc' := 17) (ls' := [some (.ref 34), some (.ref 5), some (.ref 21), some (.int (nI r)), some (.int 0), some (.int 0), none]) (sk' := []) (st' := s2) (fun _ h => h) ?_
  suffices key : ∀ (f : Nat) (T : EdT) (s3 : mSt) (sum : Int32) (p : Nat → Int) (G : Int) (l6 : Option Value), 48 ≤ sm (dD T) 6 + f → PV E T (wF n c false) r (n 0) p G → XTk s3 T → XLd s3 T → XOp s3 E → s3.1 34 0 = nI r → Fr [34, 35, 36, 37, 38, 39, 40, 41] st s3 → sum + iI (mst E (wF n c false) r (n 0) f T) = iI (mst E (wF n c false) r (n 0) 48 (fun _ _ => false)) → mW (mMC mT (d + 4)) (0, fun _ => 0) (mAtL P_X2_greatest) (some .int) Q 17 [some (.ref 34), some (.ref 5), some (.ref 21), some (.int (nI r)), some (.int sum), some (.int (nI (sm (dD T) 6))), l6] [] s3 from (by have hh := key 48 (fun _ _ => false) s2 0 pP 1000 none (by omega) (PV_none hww) hT2 hD2 hO2 hRd2 hF2 (by rw [Int32.zero_add]); rw [show sm (dD (fun _ _ => false)) 6 = 0 from sm_zero 6 (fun d _ => dD_e d)] at hh; exact hh)
  intro f
  induction f with
  | zero =>
    intro T s3 sum p G l6 hm hP hT hD hO hRd hf hsum
    have h48 := sum_48 T
    have hstep := fun (g9 : Nat) (h9 : bstO (fin_ T E (wF n c false) r (n 0)) T r 8 = some g9) => most_step hP hww h9
    refine w_blk 2 (pc' := 21) (ls' := [some (.ref 34), some (.ref 5), some (.ref 21), some (.int (nI r)), some (.int sum), some (.int (nI (sm (dD T) 6))), l6]) (sk' := [.int 48, .int (nI (sm (dD T) 6))]) (st' := s3) (fun _ h => h) ?_
    refine w_cmp_ge rfl (fun h1 => ?_) (fun h1 => ?_)
    · replace h1 : 48 ≤ sm (dD T) 6 := (nI_leI (a := 48) (b := (sm (dD T) 6)) (by omega) (by omega)).mp h1
      refine w_blk 1 (pc' := 71) (ls' := [some (.ref 34), some (.ref 5), some (.ref 21), some (.int (nI r)), some (.int sum), some (.int (nI (sm (dD T) 6))), l6]) (sk' := [.int sum]) (st' := s3) (fun _ h => h) ?_
      have hnone : bstO (fin_ T E (wF n c false) r (n 0)) T r 8 = none := by
        rcases e : bstO (fin_ T E (wF n c false) r (n 0)) T r 8 with _ | g9
        · rfl
        · have h7 := (hstep g9 e).2.2
          have h8 := sum_48 (flq (fin_ T E (wF n c false) r (n 0)).2 6 g9 T)
          omega
      rw [mst_none hnone, ← iI_0, Int32.add_zero] at hsum
      exact w_iret rfl rfl rfl (by have hh := hq s3; rw [← hsum] at hh; exact hh hf)
    · replace h1 : ¬ (48 ≤ sm (dD T) 6) := fun hh => h1 ((nI_leI (a := 48) (b := (sm (dD T) 6)) (by omega) (by omega)).mpr hh)
      exact absurd (show 48 ≤ sm (dD T) 6 by omega) h1
  | succ f ih =>
    intro T s3 sum p G l6 hm hP hT hD hO hRd hf hsum
    have h48 := sum_48 T
    have hstep := fun (g9 : Nat) (h9 : bstO (fin_ T E (wF n c false) r (n 0)) T r 8 = some g9) => most_step hP hww h9
    refine w_blk 2 (pc' := 21) (ls' := [some (.ref 34), some (.ref 5), some (.ref 21), some (.int (nI r)), some (.int sum), some (.int (nI (sm (dD T) 6))), l6]) (sk' := [.int 48, .int (nI (sm (dD T) 6))]) (st' := s3) (fun _ h => h) ?_
    refine w_cmp_ge rfl (fun h1 => ?_) (fun h1 => ?_)
    · replace h1 : 48 ≤ sm (dD T) 6 := (nI_leI (a := 48) (b := (sm (dD T) 6)) (by omega) (by omega)).mp h1
      refine w_blk 1 (pc' := 71) (ls' := [some (.ref 34), some (.ref 5), some (.ref 21), some (.int (nI r)), some (.int sum), some (.int (nI (sm (dD T) 6))), l6]) (sk' := [.int sum]) (st' := s3) (fun _ h => h) ?_
      have hnone : bstO (fin_ T E (wF n c false) r (n 0)) T r 8 = none := by
        rcases e : bstO (fin_ T E (wF n c false) r (n 0)) T r 8 with _ | g9
        · rfl
        · have h7 := (hstep g9 e).2.2
          have h8 := sum_48 (flq (fin_ T E (wF n c false) r (n 0)).2 6 g9 T)
          omega
      rw [mst_none hnone, ← iI_0, Int32.add_zero] at hsum
      exact w_iret rfl rfl rfl (by have hh := hq s3; rw [← hsum] at hh; exact hh hf)
    · replace h1 : ¬ (48 ≤ sm (dD T) 6) := fun hh => h1 ((nI_leI (a := 48) (b := (sm (dD T) 6)) (by omega) (by omega)).mpr hh)
      have hX3 : X5 s3 n c := X5_fr hf (by decide) hX
      obtain ⟨s4, hc4, hL4, hf4⟩ := c_findChains_5 (d + 0) n c E T r p G s3 hX3 hB hEn (fun d s hd hs ht => (hP.1 d s hd hs ht).1) hRd hO hT hP (by omega)
      have hlab := lab_bd (T := T) (E := E) hww (r := r) (nd := n 0)
      have hS8 := hP.2.2.2.2.2.2.2.1
      obtain ⟨-, hst1⟩ := flow_step hP hww
      obtain ⟨t, hFx⟩ := fin_FIX hP hww
      obtain ⟨x, hxe⟩ : ∃ x, x = (fin_ T E (wF n c false) r (n 0)) := ⟨_, rfl⟩
      have hsome : ∀ g9, bstO (fin_ T E (wF n c false) r (n 0)) T r 8 = some g9 → mst E (wF n c false) r (n 0) (f + 1) T = (fin_ T E (wF n c false) r (n 0)).1 (6 + g9) + mst E (wF n c false) r (n 0) f (flq (fin_ T E (wF n c false) r (n 0)).2 6 g9 T) := fun g9 h9 => mst_some h9
      have hnn : bstO (fin_ T E (wF n c false) r (n 0)) T r 8 = none → mst E (wF n c false) r (n 0) (f + 1) T = 0 := fun h9 => mst_none h9
      rw [← hxe] at hL4 hlab hst1 hFx hstep hsome hnn
      have hT4 : XTk s4 T := fun d hd => by rw [hf4.1 36 (by decide)]; exact hT d hd
      have hD4 : XLd s4 T := fun d hd => by rw [hf4.1 37 (by decide)]; exact hD d hd
      have hO4 : XOp s4 E := fun d hd => by rw [hf4.1 35 (by decide)]; exact hO d hd
      have hRd4 : s4.1 34 0 = nI r := by rw [hf4.1 34 (by decide)]; exact hRd
      have hF4 : Fr [34, 35, 36, 37, 38, 39, 40, 41] st s4 := Fr.trans hf (Fr.mono hf4 (by decide))
      refine w_blk 2 (pc' := 26) (ls' := [some (.ref 34), some (.ref 5), some (.ref 21), some (.int (nI r)), some (.int sum), some (.int (nI (sm (dD T) 6))), l6]) (sk' := [.ref 5, .ref 34]) (st' := s3) (fun _ h => h) ?_
      refine w_callV (As := [.ref 34, .ref 5]) (rest := []) rfl rfl rfl (Nat.le_of_ble_eq_true rfl) (Nat.le_of_ble_eq_true rfl) (by first | exact Or.inl ⟨rfl, rfl⟩ | exact Or.inr ⟨rfl, rfl⟩) hc4 ?_
      refine w_blk 1 (pc' := 30) (ls' := [some (.ref 34), some (.ref 5), some (.ref 21), some (.int (nI r)), some (.int sum), some (.int (nI (sm (dD T) 6))), l6]) (sk' := [.ref 34]) (st' := s4) (fun _ h => h) ?_
      have hcb := c_best (d + 2) n T x r s4 hb0 hL4 hD4 hRd4 (by omega) hS8 hlab
      refine w_callV (As := [.ref 34]) (rest := []) rfl rfl rfl (Nat.le_of_ble_eq_true rfl) (Nat.le_of_ble_eq_true rfl) (by first | exact Or.inl ⟨rfl, rfl⟩ | exact Or.inr ⟨rfl, rfl⟩) hcb ?_
      refine w_blk 1 (pc' := 35) (ls' := [some (.ref 34), some (.ref 5), some (.ref 21), some (.int (nI r)), some (.int sum), some (.int (nI (sm (dD T) 6))), some (.int (eO (bstO x T r 8)))]) (sk' := []) (st' := s4) (fun _ h => h) ?_
      rcases e : bstO x T r 8 with _ | g9
      · show mW (mMC mT (d + 4)) (0, fun _ => 0) (mAtL P_X2_greatest) (some .int) Q 35 [some (.ref 34), some (.ref 5), some (.ref 21), some (.int (nI r)), some (.int sum), some (.int (nI (sm (dD T) 6))), some (.int (-9))] [] s4
        refine w_blk 1 (pc' := 37) (ls' := [some (.ref 34), some (.ref 5), some (.ref 21), some (.int (nI r)), some (.int sum), some (.int (nI (sm (dD T) 6))), some (.int (-9))]) (sk' := [.int (-9)]) (st' := s4) (fun _ h => h) ?_
        refine w_if_ge rfl (fun hno => absurd hno (by decide)) (fun _ => ?_)
        refine w_blk 2 (pc' := 71) (ls' := [some (.ref 34), some (.ref 5), some (.ref 21), some (.int (nI r)), some (.int sum), some (.int (nI (sm (dD T) 6))), some (.int (-9))]) (sk' := [.int sum]) (st' := s4) (fun _ h => h) ?_
        rw [hnn e, ← iI_0, Int32.add_zero] at hsum
        exact w_iret rfl rfl rfl (by have hh := hq s4; rw [← hsum] at hh; exact hh hF4)
      · obtain ⟨hg8, hpos, cn, hcn, hch, -, d0, -, hd06, -, hdD, hdS⟩ := hst1 g9 e
        have hre := NOi_neg hpos
        have efl := flq_fl cn 6 g9 T (by omega) hch
        obtain ⟨-, ⟨p5, G5, hP5⟩, hsm⟩ := hstep g9 e
        rw [hsome g9 e] at hsum
        rw [efl] at hP5 hsm hsum
        obtain ⟨s5, hc5, hT5, hD5, hf5⟩ := c_follow (d + 1) n T E (fl x.2 cn g9 T) (wF n c false) p r (n 0) cn g9 x t s4 hb0 hFx hL4 hT4 hD4 hg8 hre hcn hch rfl (by have := hS8 g9 hg8; omega) hdS
        show mW (mMC mT (d + 4)) (0, fun _ => 0) (mAtL P_X2_greatest) (some .int) Q 35 [some (.ref 34), some (.ref 5), some (.ref 21), some (.int (nI r)), some (.int sum), some (.int (nI (sm (dD T) 6))), some (.int (nI g9))] [] s4
        refine w_blk 1 (pc' := 37) (ls' := [some (.ref 34), some (.ref 5), some (.ref 21), some (.int (nI r)), some (.int sum), some (.int (nI (sm (dD T) 6))), some (.int (nI g9))]) (sk' := [.int (nI g9)]) (st' := s4) (fun _ h => h) ?_
        refine w_if_ge rfl (fun _ => ?_) (fun hno => absurd (nI_pos' (by omega)) hno)
        refine w_blk 4 (pc' := 51) (ls' := [some (.ref 34), some (.ref 5), some (.ref 21), some (.int (nI r)), some (.int sum), some (.int (nI (sm (dD T) 6))), some (.int (nI g9))]) (sk' := [.int (nI g9), .ref 39, .int sum]) (st' := s4) (fun _ h => h) ?_
        refine w_callS (As := [.ref 39, .int (nI g9)]) (rest := [.int sum]) rfl rfl rfl (Nat.le_of_ble_eq_true rfl) (Nat.le_of_ble_eq_true rfl) (c_cellK (d + 3) 39 8 g9 s4 (by omega) (by decide) rfl) ?_
        rw [hL4.2.1 g9 (by omega)]
        refine w_blk 4 (pc' := 60) (ls' := [some (.ref 34), some (.ref 5), some (.ref 21), some (.int (nI r)), some (.int (sum + (iI (x.1 (6 + g9))))), some (.int (nI (sm (dD T) 6))), some (.int (nI g9))]) (sk' := [.int (nI g9), .ref 34]) (st' := s4) (fun _ h => h) ?_
        refine w_callV (As := [.ref 34, .int (nI g9)]) (rest := []) rfl rfl rfl (Nat.le_of_ble_eq_true rfl) (Nat.le_of_ble_eq_true rfl) (by first | exact Or.inl ⟨rfl, rfl⟩ | exact Or.inr ⟨rfl, rfl⟩) hc5 ?_
        refine w_blk 1 (pc' := 66) (ls' := [some (.ref 34), some (.ref 5), some (.ref 21), some (.int (nI r)), some (.int (sum + (iI (x.1 (6 + g9))))), some (.int ((nI (sm (dD T) 6)) + 1)), some (.int (nI g9))]) (sk' := []) (st' := s5) (fun _ h => h) ?_
        rw [show ((nI (sm (dD T) 6)) + 1) = nI ((sm (dD T) 6) + 1) from nI_add (sm (dD T) 6) 1]
        refine w_blk 1 (pc' := 17) (ls' := [some (.ref 34), some (.ref 5), some (.ref 21), some (.int (nI r)), some (.int (sum + (iI (x.1 (6 + g9))))), some (.int (nI ((sm (dD T) 6) + 1))), some (.int (nI g9))]) (sk' := []) (st' := s5) (fun _ h => h) ?_
        exact (by have hh := ih (fl x.2 cn g9 T) s5 (sum + iI (x.1 (6 + g9))) p5 G5 (some (.int (nI g9))) (by rw [hsm]; omega) hP5 hT5 hD5 (fun d hd => by rw [hf5.1 35 (by decide)]; exact hO4 d hd) (by rw [hf5.1 34 (by decide)]; exact hRd4) (Fr.trans hF4 (Fr.mono hf5 (by decide))) (by rw [← hsum, Int32.add_assoc, iI_add]); rw [hsm] at hh; exact hh)
set_option maxRecDepth 20000 in
/-- greatest(crew, present, r) -/
theorem c_greatest_13 (d : Nat) (n : Nat → Nat) (c : Nat → Nat → Nat) (v : Nat → Int32) (u : Nat → Nat) (yd : Nat) (r : Nat) (st : mSt) (hX : X13 st n c) (hB : CB n c) (hN : N21 st v u yd) (hU : ∀ j, 3 ≤ j → j < 12 → u j < 256) (hr1 : 1 ≤ r) (hr6 : r ≤ 6) : ∃ (s : mSt), mMC mT (d + 5) 31 [.ref 34, .ref 13, .ref 21, .int (nI r)] st (some (.int (iI (mst (EN n c u) (wF n c false) r (n 0) 48 (fun _ _ => false))))) s ∧ Fr [34, 35, 36, 37, 38, 39, 40, 41] st s := by
  suffices H : ∀ Q : Option Value → mSt → Prop, (∀ (s : mSt), Fr [34, 35, 36, 37, 38, 39, 40, 41] st s → Q (some (.int (iI (mst (EN n c u) (wF n c false) r (n 0) 48 (fun _ _ => false))))) s) → mW (mMC mT (d + 4)) (0, fun _ => 0) (mAtL P_X2_greatest) (some .int) Q 0 [some (.ref 34), some (.ref 13), some (.ref 21), some (.int (nI r)), none, none, none] [] st by
    obtain ⟨_, _, ⟨s, rfl, rfl, hp⟩, hw⟩ := mW_ex (H (fun vv tt => ∃ (s : mSt),  vv = some (.int (iI (mst (EN n c u) (wF n c false) r (n 0) 48 (fun _ _ => false)))) ∧ s = tt ∧ Fr [34, 35, 36, 37, 38, 39, 40, 41] st s) (fun s hp => ⟨s, rfl, rfl, hp⟩))
    exact ⟨s, mI_X2_greatest (d := d + 4) (Nat.le_of_ble_eq_true rfl) hw, hp⟩
  intro Q hq
  obtain ⟨hb0, hb1, hb2, hbd, hbs, hby⟩ := id hB
  have hww := wF_WB hB false
  obtain ⟨E, hEe⟩ : ∃ E, E = EN n c u := ⟨_, rfl⟩
  have hEn : ∀ d s, d < 6 → s < 8 → E d s = true → d < n 0 ∧ s < n 1 := fun d s _ _ h => EN_in (by rw [hEe] at h; exact h)
  refine w_blk 3 (pc' := 5) (ls' := [some (.ref 34), some (.ref 13), some (.ref 21), some (.int (nI r)), none, none, none]) (sk' := []) (st' := ((mU st.1 34 0 (nI r)), st.2)) (fun _ h => h) ?_
  have hF_2 : Fr [34, 35, 36, 37, 38, 39, 40, 41] st ((mU st.1 34 0 (nI r)), st.2) := (Fr.trans Fr.rf (Fr.mU (by decide)))
  have hRd_3 : (((mU st.1 34 0 (nI r)), st.2)).1 34 0 = nI r := mU_at (f := st.1) (p := 34) (k := 0)
  generalize ((mU st.1 34 0 (nI r)), st.2) = s1 at hF_2 hRd_3 ⊢
  obtain ⟨s2, hc2, hO2, hT2, hD2, hf2⟩ := c_lookH_13 (d + 0) n c v u yd s1 (X13_fr hF_2 (by decide) hX) hB (N21_fr hF_2 (by decide) hN) hU
  rw [← hEe] at hO2 hq
  have hF2 : Fr [34, 35, 36, 37, 38, 39, 40, 41] st s2 := Fr.trans hF_2 (Fr.mono hf2 (by decide))
  have hRd2 : s2.1 34 0 = nI r := by rw [hf2.1 34 (by decide)]; exact hRd_3
  refine w_blk 3 (pc' := 8) (ls' := [some (.ref 34), some (.ref 13), some (.ref 21), some (.int (nI r)), none, none, none]) (sk' := [.ref 21, .ref 13, .ref 34]) (st' := s1) (fun _ h => h) ?_
  refine w_callV (As := [.ref 34, .ref 13, .ref 21]) (rest := []) rfl rfl rfl (Nat.le_of_ble_eq_true rfl) (Nat.le_of_ble_eq_true rfl) (by first | exact Or.inl ⟨rfl, rfl⟩ | exact Or.inr ⟨rfl, rfl⟩) hc2 ?_
  refine w_blk 4 (pc' := 17) (ls' := [some (.ref 34), some (.ref 13), some (.ref 21), some (.int (nI r)), some (.int 0), some (.int 0), none]) (sk' := []) (st' := s2) (fun _ h => h) ?_
  suffices key : ∀ (f : Nat) (T : EdT) (s3 : mSt) (sum : Int32) (p : Nat → Int) (G : Int) (l6 : Option Value), 48 ≤ sm (dD T) 6 + f → PV E T (wF n c false) r (n 0) p G → XTk s3 T → XLd s3 T → XOp s3 E → s3.1 34 0 = nI r → Fr [34, 35, 36, 37, 38, 39, 40, 41] st s3 → sum + iI (mst E (wF n c false) r (n 0) f T) = iI (mst E (wF n c false) r (n 0) 48 (fun _ _ => false)) → mW (mMC mT (d + 4)) (0, fun _ => 0) (mAtL P_X2_greatest) (some .int) Q 17 [some (.ref 34), some (.ref 13), some (.ref 21), some (.int (nI r)), some (.int sum), some (.int (nI (sm (dD T) 6))), l6] [] s3 from (by have hh := key 48 (fun _ _ => false) s2 0 pP 1000 none (by omega) (PV_none hww) hT2 hD2 hO2 hRd2 hF2 (by rw [Int32.zero_add]); rw [show sm (dD (fun _ _ => false)) 6 = 0 from sm_zero 6 (fun d _ => dD_e d)] at hh; exact hh)
  intro f
  induction f with
  | zero =>
    intro T s3 sum p G l6 hm hP hT hD hO hRd hf hsum
    have h48 := sum_48 T
    have hstep := fun (g9 : Nat) (h9 : bstO (fin_ T E (wF n c false) r (n 0)) T r 8 = some g9) => most_step hP hww h9
    refine w_blk 2 (pc' := 21) (ls' := [some (.ref 34), some (.ref 13), some (.ref 21), some (.int (nI r)), some (.int sum), some (.int (nI (sm (dD T) 6))), l6]) (sk' := [.int 48, .int (nI (sm (dD T) 6))]) (st' := s3) (fun _ h => h) ?_
    refine w_cmp_ge rfl (fun h1 => ?_) (fun h1 => ?_)
    · replace h1 : 48 ≤ sm (dD T) 6 := (nI_leI (a := 48) (b := (sm (dD T) 6)) (by omega) (by omega)).mp h1
      refine w_blk 1 (pc' := 71) (ls' := [some (.ref 34), some (.ref 13), some (.ref 21), some (.int (nI r)), some (.int sum), some (.int (nI (sm (dD T) 6))), l6]) (sk' := [.int sum]) (st' := s3) (fun _ h => h) ?_
      have hnone : bstO (fin_ T E (wF n c false) r (n 0)) T r 8 = none := by
        rcases e : bstO (fin_ T E (wF n c false) r (n 0)) T r 8 with _ | g9
        · rfl
        · have h7 := (hstep g9 e).2.2
          have h8 := sum_48 (flq (fin_ T E (wF n c false) r (n 0)).2 6 g9 T)
          omega
      rw [mst_none hnone, ← iI_0, Int32.add_zero] at hsum
      exact w_iret rfl rfl rfl (by have hh := hq s3; rw [← hsum] at hh; exact hh hf)
    · replace h1 : ¬ (48 ≤ sm (dD T) 6) := fun hh => h1 ((nI_leI (a := 48) (b := (sm (dD T) 6)) (by omega) (by omega)).mpr hh)
      exact absurd (show 48 ≤ sm (dD T) 6 by omega) h1
  | succ f ih =>
    intro T s3 sum p G l6 hm hP hT hD hO hRd hf hsum
    have h48 := sum_48 T
    have hstep := fun (g9 : Nat) (h9 : bstO (fin_ T E (wF n c false) r (n 0)) T r 8 = some g9) => most_step hP hww h9
    refine w_blk 2 (pc' := 21) (ls' := [some (.ref 34), some (.ref 13), some (.ref 21), some (.int (nI r)), some (.int sum), some (.int (nI (sm (dD T) 6))), l6]) (sk' := [.int 48, .int (nI (sm (dD T) 6))]) (st' := s3) (fun _ h => h) ?_
    refine w_cmp_ge rfl (fun h1 => ?_) (fun h1 => ?_)
    · replace h1 : 48 ≤ sm (dD T) 6 := (nI_leI (a := 48) (b := (sm (dD T) 6)) (by omega) (by omega)).mp h1
      refine w_blk 1 (pc' := 71) (ls' := [some (.ref 34), some (.ref 13), some (.ref 21), some (.int (nI r)), some (.int sum), some (.int (nI (sm (dD T) 6))), l6]) (sk' := [.int sum]) (st' := s3) (fun _ h => h) ?_
      have hnone : bstO (fin_ T E (wF n c false) r (n 0)) T r 8 = none := by
        rcases e : bstO (fin_ T E (wF n c false) r (n 0)) T r 8 with _ | g9
        · rfl
        · have h7 := (hstep g9 e).2.2
          have h8 := sum_48 (flq (fin_ T E (wF n c false) r (n 0)).2 6 g9 T)
          omega
      rw [mst_none hnone, ← iI_0, Int32.add_zero] at hsum
      exact w_iret rfl rfl rfl (by have hh := hq s3; rw [← hsum] at hh; exact hh hf)
    · replace h1 : ¬ (48 ≤ sm (dD T) 6) := fun hh => h1 ((nI_leI (a := 48) (b := (sm (dD T) 6)) (by omega) (by omega)).mpr hh)
      have hX3 : X13 s3 n c := X13_fr hf (by decide) hX
      obtain ⟨s4, hc4, hL4, hf4⟩ := c_findChains_13 (d + 0) n c E T r p G s3 hX3 hB hEn (fun d s hd hs ht => (hP.1 d s hd hs ht).1) hRd hO hT hP (by omega)
      have hlab := lab_bd (T := T) (E := E) hww (r := r) (nd := n 0)
      have hS8 := hP.2.2.2.2.2.2.2.1
      obtain ⟨-, hst1⟩ := flow_step hP hww
      obtain ⟨t, hFx⟩ := fin_FIX hP hww
      obtain ⟨x, hxe⟩ : ∃ x, x = (fin_ T E (wF n c false) r (n 0)) := ⟨_, rfl⟩
      have hsome : ∀ g9, bstO (fin_ T E (wF n c false) r (n 0)) T r 8 = some g9 → mst E (wF n c false) r (n 0) (f + 1) T = (fin_ T E (wF n c false) r (n 0)).1 (6 + g9) + mst E (wF n c false) r (n 0) f (flq (fin_ T E (wF n c false) r (n 0)).2 6 g9 T) := fun g9 h9 => mst_some h9
      have hnn : bstO (fin_ T E (wF n c false) r (n 0)) T r 8 = none → mst E (wF n c false) r (n 0) (f + 1) T = 0 := fun h9 => mst_none h9
      rw [← hxe] at hL4 hlab hst1 hFx hstep hsome hnn
      have hT4 : XTk s4 T := fun d hd => by rw [hf4.1 36 (by decide)]; exact hT d hd
      have hD4 : XLd s4 T := fun d hd => by rw [hf4.1 37 (by decide)]; exact hD d hd
      have hO4 : XOp s4 E := fun d hd => by rw [hf4.1 35 (by decide)]; exact hO d hd
      have hRd4 : s4.1 34 0 = nI r := by rw [hf4.1 34 (by decide)]; exact hRd
      have hF4 : Fr [34, 35, 36, 37, 38, 39, 40, 41] st s4 := Fr.trans hf (Fr.mono hf4 (by decide))
      refine w_blk 2 (pc' := 26) (ls' := [some (.ref 34), some (.ref 13), some (.ref 21), some (.int (nI r)), some (.int sum), some (.int (nI (sm (dD T) 6))), l6]) (sk' := [.ref 13, .ref 34]) (st' := s3) (fun _ h => h) ?_
      refine w_callV (As := [.ref 34, .ref 13]) (rest := []) rfl rfl rfl (Nat.le_of_ble_eq_true rfl) (Nat.le_of_ble_eq_true rfl) (by first | exact Or.inl ⟨rfl, rfl⟩ | exact Or.inr ⟨rfl, rfl⟩) hc4 ?_
      refine w_blk 1 (pc' := 30) (ls' := [some (.ref 34), some (.ref 13), some (.ref 21), some (.int (nI r)), some (.int sum), some (.int (nI (sm (dD T) 6))), l6]) (sk' := [.ref 34]) (st' := s4) (fun _ h => h) ?_
      have hcb := c_best (d + 2) n T x r s4 hb0 hL4 hD4 hRd4 (by omega) hS8 hlab
      refine w_callV (As := [.ref 34]) (rest := []) rfl rfl rfl (Nat.le_of_ble_eq_true rfl) (Nat.le_of_ble_eq_true rfl) (by first | exact Or.inl ⟨rfl, rfl⟩ | exact Or.inr ⟨rfl, rfl⟩) hcb ?_
      refine w_blk 1 (pc' := 35) (ls' := [some (.ref 34), some (.ref 13), some (.ref 21), some (.int (nI r)), some (.int sum), some (.int (nI (sm (dD T) 6))), some (.int (eO (bstO x T r 8)))]) (sk' := []) (st' := s4) (fun _ h => h) ?_
      rcases e : bstO x T r 8 with _ | g9
      · show mW (mMC mT (d + 4)) (0, fun _ => 0) (mAtL P_X2_greatest) (some .int) Q 35 [some (.ref 34), some (.ref 13), some (.ref 21), some (.int (nI r)), some (.int sum), some (.int (nI (sm (dD T) 6))), some (.int (-9))] [] s4
        refine w_blk 1 (pc' := 37) (ls' := [some (.ref 34), some (.ref 13), some (.ref 21), some (.int (nI r)), some (.int sum), some (.int (nI (sm (dD T) 6))), some (.int (-9))]) (sk' := [.int (-9)]) (st' := s4) (fun _ h => h) ?_
        refine w_if_ge rfl (fun hno => absurd hno (by decide)) (fun _ => ?_)
        refine w_blk 2 (pc' := 71) (ls' := [some (.ref 34), some (.ref 13), some (.ref 21), some (.int (nI r)), some (.int sum), some (.int (nI (sm (dD T) 6))), some (.int (-9))]) (sk' := [.int sum]) (st' := s4) (fun _ h => h) ?_
        rw [hnn e, ← iI_0, Int32.add_zero] at hsum
        exact w_iret rfl rfl rfl (by have hh := hq s4; rw [← hsum] at hh; exact hh hF4)
      · obtain ⟨hg8, hpos, cn, hcn, hch, -, d0, -, hd06, -, hdD, hdS⟩ := hst1 g9 e
        have hre := NOi_neg hpos
        have efl := flq_fl cn 6 g9 T (by omega) hch
        obtain ⟨-, ⟨p5, G5, hP5⟩, hsm⟩ := hstep g9 e
        rw [hsome g9 e] at hsum
        rw [efl] at hP5 hsm hsum
        obtain ⟨s5, hc5, hT5, hD5, hf5⟩ := c_follow (d + 1) n T E (fl x.2 cn g9 T) (wF n c false) p r (n 0) cn g9 x t s4 hb0 hFx hL4 hT4 hD4 hg8 hre hcn hch rfl (by have := hS8 g9 hg8; omega) hdS
        show mW (mMC mT (d + 4)) (0, fun _ => 0) (mAtL P_X2_greatest) (some .int) Q 35 [some (.ref 34), some (.ref 13), some (.ref 21), some (.int (nI r)), some (.int sum), some (.int (nI (sm (dD T) 6))), some (.int (nI g9))] [] s4
        refine w_blk 1 (pc' := 37) (ls' := [some (.ref 34), some (.ref 13), some (.ref 21), some (.int (nI r)), some (.int sum), some (.int (nI (sm (dD T) 6))), some (.int (nI g9))]) (sk' := [.int (nI g9)]) (st' := s4) (fun _ h => h) ?_
        refine w_if_ge rfl (fun _ => ?_) (fun hno => absurd (nI_pos' (by omega)) hno)
        refine w_blk 4 (pc' := 51) (ls' := [some (.ref 34), some (.ref 13), some (.ref 21), some (.int (nI r)), some (.int sum), some (.int (nI (sm (dD T) 6))), some (.int (nI g9))]) (sk' := [.int (nI g9), .ref 39, .int sum]) (st' := s4) (fun _ h => h) ?_
        refine w_callS (As := [.ref 39, .int (nI g9)]) (rest := [.int sum]) rfl rfl rfl (Nat.le_of_ble_eq_true rfl) (Nat.le_of_ble_eq_true rfl) (c_cellK (d + 3) 39 8 g9 s4 (by omega) (by decide) rfl) ?_
        rw [hL4.2.1 g9 (by omega)]
        refine w_blk 4 (pc' := 60) (ls' := [some (.ref 34), some (.ref 13), some (.ref 21), some (.int (nI r)), some (.int (sum + (iI (x.1 (6 + g9))))), some (.int (nI (sm (dD T) 6))), some (.int (nI g9))]) (sk' := [.int (nI g9), .ref 34]) (st' := s4) (fun _ h => h) ?_
        refine w_callV (As := [.ref 34, .int (nI g9)]) (rest := []) rfl rfl rfl (Nat.le_of_ble_eq_true rfl) (Nat.le_of_ble_eq_true rfl) (by first | exact Or.inl ⟨rfl, rfl⟩ | exact Or.inr ⟨rfl, rfl⟩) hc5 ?_
        refine w_blk 1 (pc' := 66) (ls' := [some (.ref 34), some (.ref 13), some (.ref 21), some (.int (nI r)), some (.int (sum + (iI (x.1 (6 + g9))))), some (.int ((nI (sm (dD T) 6)) + 1)), some (.int (nI g9))]) (sk' := []) (st' := s5) (fun _ h => h) ?_
        rw [show ((nI (sm (dD T) 6)) + 1) = nI ((sm (dD T) 6) + 1) from nI_add (sm (dD T) 6) 1]
        refine w_blk 1 (pc' := 17) (ls' := [some (.ref 34), some (.ref 13), some (.ref 21), some (.int (nI r)), some (.int (sum + (iI (x.1 (6 + g9))))), some (.int (nI ((sm (dD T) 6) + 1))), some (.int (nI g9))]) (sk' := []) (st' := s5) (fun _ h => h) ?_
        exact (by have hh := ih (fl x.2 cn g9 T) s5 (sum + iI (x.1 (6 + g9))) p5 G5 (some (.int (nI g9))) (by rw [hsm]; omega) hP5 hT5 hD5 (fun d hd => by rw [hf5.1 35 (by decide)]; exact hO4 d hd) (by rw [hf5.1 34 (by decide)]; exact hRd4) (Fr.trans hF4 (Fr.mono hf5 (by decide))) (by rw [← hsum, Int32.add_assoc, iI_add]); rw [hsm] at hh; exact hh)
set_option maxRecDepth 20000 in
/-- most(r) -/
theorem x_most_5 (d : Nat) (n : Nat → Nat) (c : Nat → Nat → Nat) (v : Nat → Int32) (u : Nat → Nat) (yd : Nat) (x : Int32) (st : mSt) (hcw : st.1 0 1 = nI 5) (hX : X5 st n c) (hB : CB n c) (hN : N21 st v u yd) (hU : ∀ j, 3 ≤ j → j < 12 → u j < 256) : ∃ (s : mSt), mMC mT (d + 6) 99 [.ref 0, .int x] st (some (.int (sp_most n c u x))) s ∧ Fr [34, 35, 36, 37, 38, 39, 40, 41] st s := by
  suffices H : ∀ Q : Option Value → mSt → Prop, (∀ (s : mSt), Fr [34, 35, 36, 37, 38, 39, 40, 41] st s → Q (some (.int (sp_most n c u x))) s) → mW (mMC mT (d + 5)) (0, fun _ => 0) (mAtL P_X9_most) (some .int) Q 0 [some (.ref 0), some (.int x)] [] st by
    obtain ⟨_, _, ⟨s, rfl, rfl, hp⟩, hw⟩ := mW_ex (H (fun vv tt => ∃ (s : mSt),  vv = some (.int (sp_most n c u x)) ∧ s = tt ∧ Fr [34, 35, 36, 37, 38, 39, 40, 41] st s) (fun s hp => ⟨s, rfl, rfl, hp⟩))
    exact ⟨s, mI_X9_most (d := d + 5) (Nat.le_of_ble_eq_true rfl) hw, hp⟩
  intro Q hq
  have hcr : (st.1 0 1).toNatClampNeg = 5 := by rw [hcw]; rfl
  refine w_blk 3 (pc' := 4) (ls' := [some (.ref 0), some (.int x)]) (sk' := [.int 6, .int 1, .int x]) (st' := st) (fun _ h => h) ?_
  refine w_callS (As := [.int x, .int 1, .int 6]) (rest := []) rfl rfl rfl (Nat.le_of_ble_eq_true rfl) (Nat.le_of_ble_eq_true rfl) (c_within (d + 4) x 1 6 st) ?_
  refine w_if_eq rfl (fun h1 => ?_) (fun h1 => ?_)
  · replace h1 := pI_eq0.mp h1
    refine w_blk 1 (pc' := 30) (ls' := [some (.ref 0), some (.int x)]) (sk' := [.int (-1)]) (st' := st) (fun _ h => h) ?_
    exact w_iret rfl rfl rfl (by have hh := hq st; rw [show sp_most n c u x = -1 from if_neg h1] at hh; exact hh Fr.rf)
  · replace h1 := pI_ne.mp h1
    have hok : 1 ≤ x ∧ x ≤ 6 := h1
    obtain ⟨r, hr1, hr6, rfl⟩ := nI_within (a := 1) (b := 6) h1 (by decide) (by decide)
    have ec := nI_clamp (show r < 2 ^ 31 by omega)
    rw [show sp_most n c u (nI r) = iI (mst (EN n c u) (wF n c false) r (n 0) 48 (fun _ _ => false)) from (if_pos hok).trans (by rw [ec])] at hq
    obtain ⟨s1, hc, hf⟩ := c_greatest_5 (d + 0) n c v u yd r st hX hB hN hU hr1 hr6
    refine w_blk 3 (pc' := 15) (ls' := [some (.ref 0), some (.int (nI r))]) (sk' := [.ref 0, .ref 34]) (st' := st) (fun _ h => h) ?_
    refine w_blk 1 (pc' := 18) (ls' := [some (.ref 0), some (.int (nI r))]) (sk' := [.ref (Int32.toNatClampNeg (st.1 0 1)), .ref 34]) (st' := st) (fun _ h => h) ?_
    rw [show Int32.toNatClampNeg (st.1 0 1) = 5 from hcr]
    refine w_blk 3 (pc' := 23) (ls' := [some (.ref 0), some (.int (nI r))]) (sk' := [.int (nI r), .ref 21, .ref 5, .ref 34]) (st' := st) (fun _ h => h) ?_
    refine w_callV (As := [.ref 34, .ref 5, .ref 21, .int (nI r)]) (rest := []) rfl rfl rfl (Nat.le_of_ble_eq_true rfl) (Nat.le_of_ble_eq_true rfl) (by first | exact Or.inl ⟨rfl, rfl⟩ | exact Or.inr ⟨rfl, rfl⟩) hc ?_
    refine w_blk 1 (pc' := 30) (ls' := [some (.ref 0), some (.int (nI r))]) (sk' := [.int (iI (mst (EN n c u) (wF n c false) r (n 0) 48 (fun _ _ => false)))]) (st' := s1) (fun _ h => h) ?_
    exact w_iret rfl rfl rfl (hq s1 hf)
set_option maxRecDepth 20000 in
/-- most(r) -/
theorem x_most_13 (d : Nat) (n : Nat → Nat) (c : Nat → Nat → Nat) (v : Nat → Int32) (u : Nat → Nat) (yd : Nat) (x : Int32) (st : mSt) (hcw : st.1 0 1 = nI 13) (hX : X13 st n c) (hB : CB n c) (hN : N21 st v u yd) (hU : ∀ j, 3 ≤ j → j < 12 → u j < 256) : ∃ (s : mSt), mMC mT (d + 6) 99 [.ref 0, .int x] st (some (.int (sp_most n c u x))) s ∧ Fr [34, 35, 36, 37, 38, 39, 40, 41] st s := by
  suffices H : ∀ Q : Option Value → mSt → Prop, (∀ (s : mSt), Fr [34, 35, 36, 37, 38, 39, 40, 41] st s → Q (some (.int (sp_most n c u x))) s) → mW (mMC mT (d + 5)) (0, fun _ => 0) (mAtL P_X9_most) (some .int) Q 0 [some (.ref 0), some (.int x)] [] st by
    obtain ⟨_, _, ⟨s, rfl, rfl, hp⟩, hw⟩ := mW_ex (H (fun vv tt => ∃ (s : mSt),  vv = some (.int (sp_most n c u x)) ∧ s = tt ∧ Fr [34, 35, 36, 37, 38, 39, 40, 41] st s) (fun s hp => ⟨s, rfl, rfl, hp⟩))
    exact ⟨s, mI_X9_most (d := d + 5) (Nat.le_of_ble_eq_true rfl) hw, hp⟩
  intro Q hq
  have hcr : (st.1 0 1).toNatClampNeg = 13 := by rw [hcw]; rfl
  refine w_blk 3 (pc' := 4) (ls' := [some (.ref 0), some (.int x)]) (sk' := [.int 6, .int 1, .int x]) (st' := st) (fun _ h => h) ?_
  refine w_callS (As := [.int x, .int 1, .int 6]) (rest := []) rfl rfl rfl (Nat.le_of_ble_eq_true rfl) (Nat.le_of_ble_eq_true rfl) (c_within (d + 4) x 1 6 st) ?_
  refine w_if_eq rfl (fun h1 => ?_) (fun h1 => ?_)
  · replace h1 := pI_eq0.mp h1
    refine w_blk 1 (pc' := 30) (ls' := [some (.ref 0), some (.int x)]) (sk' := [.int (-1)]) (st' := st) (fun _ h => h) ?_
    exact w_iret rfl rfl rfl (by have hh := hq st; rw [show sp_most n c u x = -1 from if_neg h1] at hh; exact hh Fr.rf)
  · replace h1 := pI_ne.mp h1
    have hok : 1 ≤ x ∧ x ≤ 6 := h1
    obtain ⟨r, hr1, hr6, rfl⟩ := nI_within (a := 1) (b := 6) h1 (by decide) (by decide)
    have ec := nI_clamp (show r < 2 ^ 31 by omega)
    rw [show sp_most n c u (nI r) = iI (mst (EN n c u) (wF n c false) r (n 0) 48 (fun _ _ => false)) from (if_pos hok).trans (by rw [ec])] at hq
    obtain ⟨s1, hc, hf⟩ := c_greatest_13 (d + 0) n c v u yd r st hX hB hN hU hr1 hr6
    refine w_blk 3 (pc' := 15) (ls' := [some (.ref 0), some (.int (nI r))]) (sk' := [.ref 0, .ref 34]) (st' := st) (fun _ h => h) ?_
    refine w_blk 1 (pc' := 18) (ls' := [some (.ref 0), some (.int (nI r))]) (sk' := [.ref (Int32.toNatClampNeg (st.1 0 1)), .ref 34]) (st' := st) (fun _ h => h) ?_
    rw [show Int32.toNatClampNeg (st.1 0 1) = 13 from hcr]
    refine w_blk 3 (pc' := 23) (ls' := [some (.ref 0), some (.int (nI r))]) (sk' := [.int (nI r), .ref 21, .ref 13, .ref 34]) (st' := st) (fun _ h => h) ?_
    refine w_callV (As := [.ref 34, .ref 13, .ref 21, .int (nI r)]) (rest := []) rfl rfl rfl (Nat.le_of_ble_eq_true rfl) (Nat.le_of_ble_eq_true rfl) (by first | exact Or.inl ⟨rfl, rfl⟩ | exact Or.inr ⟨rfl, rfl⟩) hc ?_
    refine w_blk 1 (pc' := 30) (ls' := [some (.ref 0), some (.int (nI r))]) (sk' := [.int (iI (mst (EN n c u) (wF n c false) r (n 0) 48 (fun _ _ => false)))]) (st' := s1) (fun _ h => h) ?_
    exact w_iret rfl rfl rfl (hq s1 hf)
