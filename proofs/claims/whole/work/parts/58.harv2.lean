/-! HARVEST: the walks of the class, chains -/
set_option maxRecDepth 20000 in
/-- findChains(crew) -/
theorem c_findChains_5 (d : Nat) (n : Nat → Nat) (c : Nat → Nat → Nat) (E T : EdT) (r : Nat) (p : Nat → Int) (G : Int) (st : mSt) (hX : X5 st n c) (hB : CB n c) (hEn : ∀ d s, d < 6 → s < 8 → E d s = true → d < n 0 ∧ s < n 1) (hTE : ∀ d s, d < 6 → s < 8 → T d s = true → E d s = true) (hRd : st.1 34 0 = nI r) (hO : XOp st E) (hT : XTk st T) (hPV : PV E T (wF n c false) r (n 0) p G) (hr : r ≤ 8) : ∃ (s : mSt), mMC mT (d + 4) 33 [.ref 34, .ref 5] st (none) s ∧ XLb s n (fin_ T E (wF n c false) r (n 0)) ∧ Fr [38, 39, 40, 41] st s := by
  suffices H : ∀ Q : Option Value → mSt → Prop, (∀ (s : mSt), (XLb s n (fin_ T E (wF n c false) r (n 0)) ∧ Fr [38, 39, 40, 41] st s) → Q (none) s) → mW (mMC mT (d + 3)) (0, fun _ => 0) (mAtL P_X2_findChains) none Q 0 [some (.ref 34), some (.ref 5), none, none, none] [] st by
    obtain ⟨_, _, ⟨s, rfl, rfl, hp⟩, hw⟩ := mW_ex (H (fun vv tt => ∃ (s : mSt),  vv = none ∧ s = tt ∧ XLb s n (fin_ T E (wF n c false) r (n 0)) ∧ Fr [38, 39, 40, 41] st s) (fun s hp => ⟨s, rfl, rfl, hp⟩))
    exact ⟨s, mI_X2_findChains (d := d + 3) (Nat.le_of_ble_eq_true rfl) hw, hp⟩
  intro Q hq
  obtain ⟨hb0, hb1, hb2, hbd, hbs, hby⟩ := id hB
  have hww := wF_WB hB false
  have hNO : NOi = -1000000 := rfl
  have turns : ∀ (m i : Nat) (z : Int32) (s0 : mSt) (l4 : Option Value), i + m = 14 → (z = 0 ∨ z = 1) → (z = 0 → 1 ≤ i ∧ tn (fA T E (wF n c false)) (ini T r (n 0)) i = tn (fA T E (wF n c false)) (ini T r (n 0)) (i - 1)) → XLb s0 n (tn (fA T E (wF n c false)) (ini T r (n 0)) i) → Fr [38, 39, 40, 41] st s0 → mW (mMC mT (d + 3)) (0, fun _ => 0) (mAtL P_X2_findChains) none Q 78 [some (.ref 34), some (.ref 5), some (.int z), some (.int (nI i)), l4] [] s0 := by
    intro m
    induction m with
    | zero =>
      intro i z s0 l4 hi hz hsm hL0 hf
      obtain rfl : i = 14 := by omega
      refine w_blk 2 (pc' := 81) (ls' := [some (.ref 34), some (.ref 5), some (.int z), some (.int (nI 14)), l4]) (sk' := [.int 14, .int (nI 14)]) (st' := s0) (fun _ h => h) ?_
      refine w_cmp_ge rfl (fun _ => ?_) (fun hno => absurd (Int32.le_refl _) hno)
      exact w_vret rfl rfl (hq s0 ⟨by have h9 : (fin_ T E (wF n c false) r (n 0)) = tn (fA T E (wF n c false)) (ini T r (n 0)) 14 := (fin_more hPV hww 1).symm; rw [h9]; exact hL0, hf⟩)
    | succ m ih =>
      intro i z s0 l4 hi hz hsm hL0 hf
      refine w_blk 2 (pc' := 81) (ls' := [some (.ref 34), some (.ref 5), some (.int z), some (.int (nI i)), l4]) (sk' := [.int 14, .int (nI i)]) (st' := s0) (fun _ h => h) ?_
      refine w_cmp_ge rfl (fun hno => absurd hno (nI_ge (a := i) (b := 14) (by omega) (by omega))) (fun _ => ?_)
      refine w_blk 1 (pc' := 85) (ls' := [some (.ref 34), some (.ref 5), some (.int z), some (.int (nI i)), l4]) (sk' := [.int z]) (st' := s0) (fun _ h => h) ?_
      rcases hz with hz | hz
      · subst hz
        refine w_if_eq rfl (fun _ => ?_) (fun hno => absurd rfl hno)
        exact w_vret rfl rfl (hq s0 ⟨by have h9 : (fin_ T E (wF n c false) r (n 0)) = tn (fA T E (wF n c false)) (ini T r (n 0)) i := (by obtain ⟨h8, h7⟩ := hsm rfl; have h6 := tn_early (A := (fA T E (wF n c false))) (s := (ini T r (n 0))) (i := i - 1) (by rw [show i - 1 + 1 = i by omega]; exact h7) (13 - (i - 1)); rw [show i - 1 + (13 - (i - 1)) = 13 by omega] at h6; exact h6.trans h7.symm); rw [h9]; exact hL0, hf⟩)
      · subst hz
        refine w_if_eq rfl (fun hno => absurd hno (by decide)) (fun _ => ?_)
        refine w_blk 4 (pc' := 93) (ls' := [some (.ref 34), some (.ref 5), some (.int 0), some (.int (nI i)), some (.int 0)]) (sk' := []) (st' := s0) (fun _ h => h) ?_
        suffices key : ∀ (m2 d0 : Nat) (zz : Int32) (s1 : mSt), d0 + m2 = 6 → (zz = 0 ∨ zz = 1) → (zz = 0 → rk (fA T E (wF n c false)) (tn (fA T E (wF n c false)) (ini T r (n 0)) i) (8 * d0) = (tn (fA T E (wF n c false)) (ini T r (n 0)) i)) → XLb s1 n (rk (fA T E (wF n c false)) (tn (fA T E (wF n c false)) (ini T r (n 0)) i) (8 * d0)) → Fr [38, 39, 40, 41] st s1 → mW (mMC mT (d + 3)) (0, fun _ => 0) (mAtL P_X2_findChains) none Q 93 [some (.ref 34), some (.ref 5), some (.int zz), some (.int (nI i)), some (.int (nI d0))] [] s1 from key 6 0 0 s0 (by omega) (Or.inl rfl) (fun _ => rfl) hL0 hf
        intro m2
        induction m2 with
        | zero =>
          intro d0 zz s1 hd hzz hsame hL1 hf1
          obtain rfl : d0 = 6 := by omega
          refine w_blk 2 (pc' := 97) (ls' := [some (.ref 34), some (.ref 5), some (.int zz), some (.int (nI i)), some (.int (nI 6))]) (sk' := [.int 6, .int (nI 6)]) (st' := s1) (fun _ h => h) ?_
          refine w_cmp_ge rfl (fun _ => ?_) (fun hno => absurd (Int32.le_refl _) hno)
          refine w_blk 1 (pc' := 119) (ls' := [some (.ref 34), some (.ref 5), some (.int zz), some (.int ((nI i) + 1)), some (.int (nI 6))]) (sk' := []) (st' := s1) (fun _ h => h) ?_
          rw [show ((nI i) + 1) = nI (i + 1) from nI_add i 1]
          refine w_blk 1 (pc' := 78) (ls' := [some (.ref 34), some (.ref 5), some (.int zz), some (.int (nI (i + 1))), some (.int (nI 6))]) (sk' := []) (st' := s1) (fun _ h => h) ?_
          exact ih (i + 1) zz s1 _ (by omega) hzz (fun h9 => ⟨by omega, hsame h9⟩) hL1 hf1
        | succ m2 ih2 =>
          intro d0 zz s1 hd hzz hsame hL1 hf1
          have hd6 : d0 < 6 := by omega
          have hX1 : X5 s1 n c := X5_fr hf1 (by decide) hX
          obtain ⟨z2, s2, hc2, hz2, hs2, hL2, hf2⟩ := c_lenBy_5 (d + 0) n c E T (tn (fA T E (wF n c false)) (ini T r (n 0)) i) d0 s1 hX1 hB hEn hTE (fun d hd => by rw [hf1.1 35 (by decide)]; exact hO d hd) (fun d hd => by rw [hf1.1 36 (by decide)]; exact hT d hd) hd6 hL1 (fun k v hk => LBD_at hww (by omega) hk v)
          refine w_blk 2 (pc' := 97) (ls' := [some (.ref 34), some (.ref 5), some (.int zz), some (.int (nI i)), some (.int (nI d0))]) (sk' := [.int 6, .int (nI d0)]) (st' := s1) (fun _ h => h) ?_
          refine w_cmp_ge rfl (fun hno => absurd hno (nI_ge (a := d0) (b := 6) hd6 (by omega))) (fun _ => ?_)
          refine w_blk 4 (pc' := 105) (ls' := [some (.ref 34), some (.ref 5), some (.int zz), some (.int (nI i)), some (.int (nI d0))]) (sk' := [.int (nI d0), .ref 5, .ref 34, .int zz]) (st' := s1) (fun _ h => h) ?_
          refine w_callV (As := [.ref 34, .ref 5, .int (nI d0)]) (rest := [.int zz]) rfl rfl rfl (Nat.le_of_ble_eq_true rfl) (Nat.le_of_ble_eq_true rfl) (by first | exact Or.inl ⟨rfl, rfl⟩ | exact Or.inr ⟨rfl, rfl⟩) hc2 ?_
          refine w_blk 3 (pc' := 113) (ls' := [some (.ref 34), some (.ref 5), some (.int (zz ||| z2)), some (.int (nI i)), some (.int ((nI d0) + 1))]) (sk' := []) (st' := s2) (fun _ h => h) ?_
          rw [show ((nI d0) + 1) = nI (d0 + 1) from nI_add d0 1]
          refine w_blk 1 (pc' := 93) (ls' := [some (.ref 34), some (.ref 5), some (.int (zz ||| z2)), some (.int (nI i)), some (.int (nI (d0 + 1)))]) (sk' := []) (st' := s2) (fun _ h => h) ?_
          have hor : (zz ||| z2 = 0 ∨ zz ||| z2 = 1) ∧ (zz ||| z2 = 0 → zz = 0 ∧ z2 = 0) := by rcases hzz with rfl | rfl <;> rcases hz2 with rfl | rfl <;> decide
          exact ih2 (d0 + 1) (zz ||| z2) s2 (by omega) hor.1 (fun h9 => (hs2 (hor.2 h9).2).trans (hsame (hor.2 h9).1)) hL2 (Fr.trans hf1 hf2)
  refine w_blk 2 (pc' := 2) (ls' := [some (.ref 34), some (.ref 5), some (.int 0), none, none]) (sk' := []) (st' := st) (fun _ h => h) ?_
  suffices bd : ∀ (m k : Nat) (s0 : mSt) (l3 : Option Value), k + m = 6 → Fr [38, 39, 40, 41] st s0 → (∀ d, d < k → s0.1 38 d = iI (if dD T d < r then 0 else NOi)) → mW (mMC mT (d + 3)) (0, fun _ => 0) (mAtL P_X2_findChains) none Q 2 [some (.ref 34), some (.ref 5), some (.int (nI k)), l3, none] [] s0 from bd 6 0 st none (by omega) Fr.rf (fun j hj => absurd hj (by omega))
  intro m
  induction m with
  | zero =>
    intro k s0 l3 hk hf hz
    obtain rfl : k = 6 := by omega
    refine w_blk 2 (pc' := 5) (ls' := [some (.ref 34), some (.ref 5), some (.int (nI 6)), l3, none]) (sk' := [.int 6, .int (nI 6)]) (st' := s0) (fun _ h => h) ?_
    refine w_cmp_ge rfl (fun _ => ?_) (fun hno => absurd (Int32.le_refl _) hno)
    refine w_blk 3 (pc' := 62) (ls' := [some (.ref 34), some (.ref 5), some (.int (nI 6)), l3, none]) (sk' := [.int (-9), .ref 40]) (st' := s0) (fun _ h => h) ?_
    refine w_callS (As := [.ref 40, .int (-9)]) (rest := []) rfl rfl rfl (Nat.le_of_ble_eq_true rfl) (Nat.le_of_ble_eq_true rfl) (c_fill (d + 2) 40 6 (-9) s0 (by decide) rfl) ?_
    have hA1 : ∀ d, d < 6 → (filU s0.1 40 6 (-9)) 38 d = iI (if dD T d < r then 0 else NOi) := fun d hd => (congrFun (filU_ne (by decide)) d).trans (hz d hd)
    have hA2 : ∀ d, d < 6 → (filU s0.1 40 6 (-9)) 40 d = -9 := fun d hd => filU_at hd
    have hA3 : Fr [38, 39, 40, 41] st (filU s0.1 40 6 (-9), s0.2) := Fr.trans hf (Fr.fil (by decide))
    generalize hs4 : ((filU s0.1 40 6 (-9), s0.2) : mSt) = s4 at hA3 ⊢
    have hA1 : ∀ d, d < 6 → s4.1 38 d = iI (if dD T d < r then 0 else NOi) := fun d hd => by rw [← hs4]; exact hA1 d hd
    have hA2 : ∀ d, d < 6 → s4.1 40 d = -9 := fun d hd => by rw [← hs4]; exact hA2 d hd
    refine w_blk 2 (pc' := 69) (ls' := [some (.ref 34), some (.ref 5), some (.int (nI 6)), l3, none]) (sk' := [.ref 39]) (st' := s4) (fun _ h => h) ?_
    refine w_ldcN rfl ?_
    show mW (mMC mT (d + 3)) (0, fun _ => 0) (mAtL P_X2_findChains) none Q 71 [some (.ref 34), some (.ref 5), some (.int (nI 6)), l3, none] [.int (iI NOi), .ref 39] s4
    refine w_callS (As := [.ref 39, .int (iI NOi)]) (rest := []) rfl rfl rfl (Nat.le_of_ble_eq_true rfl) (Nat.le_of_ble_eq_true rfl) (c_fill (d + 2) 39 8 (iI NOi) s4 (by decide) rfl) ?_
    refine w_blk 4 (pc' := 78) (ls' := [some (.ref 34), some (.ref 5), some (.int 1), some (.int 0), none]) (sk' := []) (st' := (filU s4.1 39 8 (iI NOi), s4.2)) (fun _ h => h) ?_
    exact turns 14 0 1 (filU s4.1 39 8 (iI NOi), s4.2) none (by omega) (Or.inr rfl) (fun h9 => absurd h9 (by decide)) ⟨fun d hd => ((congrFun (filU_ne (f := s4.1) (a := 39) (n := 8) (q := 38) (x := iI NOi) (by decide)) d).trans (hA1 d (by omega))).trans (congrArg iI (show (if dD T d < r then 0 else NOi) = (ini T r (n 0)).1 d from by
          show _ = (if d < 6 ∧ d < n 0 ∧ dD T d < r then (0 : Int) else NOi)
          by_cases e : dD T d < r
          · rw [if_pos e, if_pos ⟨by omega, hd, e⟩]
          · rw [if_neg e, if_neg (fun hh => e hh.2.2)])), fun s hs => (filU_at hs).trans (congrArg iI (show NOi = (ini T r (n 0)).1 (6 + s) from (if_neg (by omega)).symm)), fun d hd => (congrFun (filU_ne (f := s4.1) (a := 39) (n := 8) (q := 40) (x := iI NOi) (by decide)) d).trans (hA2 d hd), fun s hs hne => absurd (show (ini T r (n 0)).1 (6 + s) = NOi from if_neg (by omega)) hne⟩ (Fr.trans hA3 (Fr.fil (by decide)))
  | succ m ih =>
    intro k s0 l3 hk hf hz
    have hk6 : k < 6 := by omega
    have hT0 : XTk s0 T := fun d hd => by rw [hf.1 36 (by decide)]; exact hT d hd
    have hRd0 : s0.1 34 0 = nI r := by rw [hf.1 34 (by decide)]; exact hRd
    have htb := tbs_256 T k
    have htp := tbs_pop T k
    have hd8 := dD_8 T k
    refine w_blk 2 (pc' := 5) (ls' := [some (.ref 34), some (.ref 5), some (.int (nI k)), l3, none]) (sk' := [.int 6, .int (nI k)]) (st' := s0) (fun _ h => h) ?_
    refine w_cmp_ge rfl (fun hno => absurd hno (nI_ge (a := k) (b := 6) hk6 (by omega))) (fun _ => ?_)
    refine w_blk 3 (pc' := 13) (ls' := [some (.ref 34), some (.ref 5), some (.int (nI k)), l3, none]) (sk' := [.int (nI k), .ref 36]) (st' := s0) (fun _ h => h) ?_
    refine w_callS (As := [.ref 36, .int (nI k)]) (rest := []) rfl rfl rfl (Nat.le_of_ble_eq_true rfl) (Nat.le_of_ble_eq_true rfl) (c_cellK (d + 2) 36 6 k s0 (by omega) (by decide) rfl) ?_
    rw [hT0 k (by omega)]
    refine w_callS (As := [.int (nI (tbs T k))]) (rest := []) rfl rfl rfl (Nat.le_of_ble_eq_true rfl) (Nat.le_of_ble_eq_true rfl) (c_bitCountK (d + 2) (tbs T k) s0 (by omega)) ?_
    rw [htp]
    refine w_blk 2 (pc' := 23) (ls' := [some (.ref 34), some (.ref 5), some (.int (nI k)), l3, none]) (sk' := [.int (s0.1 34 0), .int (nI (dD T k))]) (st' := s0) (fun _ h => h) ?_
    rw [hRd0]
    refine w_cmp_ge rfl (fun h1 => ?_) (fun h1 => ?_)
    · replace h1 : r ≤ dD T k := (nI_leI (a := r) (b := (dD T k)) (by omega) (by omega)).mp h1
      refine w_blk 6 (pc' := 38) (ls' := [some (.ref 34), some (.ref 5), some (.int (nI k)), some (.int 0), none]) (sk' := [.int 0, .int (nI k), .ref 38]) (st' := s0) (fun _ h => h) ?_
      refine w_if_eq rfl (fun _ => ?_) (fun hno => absurd (by decide) hno)
      refine w_ldcN rfl ?_
      show mW (mMC mT (d + 3)) (0, fun _ => 0) (mAtL P_X2_findChains) none Q 47 [some (.ref 34), some (.ref 5), some (.int (nI k)), some (.int 0), none] [.int (iI NOi), .int (nI k), .ref 38] s0
      refine w_callS (As := [.ref 38, .int (nI k), .int (iI NOi)]) (rest := []) rfl rfl rfl (Nat.le_of_ble_eq_true rfl) (Nat.le_of_ble_eq_true rfl) (c_putK (d + 2) 38 6 k (iI NOi) s0 (by omega) (by decide) rfl) ?_
      refine w_blk 1 (pc' := 53) (ls' := [some (.ref 34), some (.ref 5), some (.int ((nI k) + 1)), some (.int 0), none]) (sk' := []) (st' := ((mU s0.1 38 k (iI NOi)), s0.2)) (fun _ h => h) ?_
      rw [show ((nI k) + 1) = nI (k + 1) from nI_add k 1]
      refine w_blk 1 (pc' := 2) (ls' := [some (.ref 34), some (.ref 5), some (.int (nI (k + 1))), some (.int 0), none]) (sk' := []) (st' := ((mU s0.1 38 k (iI NOi)), s0.2)) (fun _ h => h) ?_
      exact ih (k + 1) ((mU s0.1 38 k (iI NOi)), s0.2) _ (by omega) (Fr.trans hf (Fr.mU (by decide))) (fun j hj => if ej : j = k then (by rw [ej]; exact (mU_at (f := s0.1) (p := 38) (k := k)).trans (by rw [if_neg (show ¬ dD T k < r by omega)])) else (mU_row ej).trans (hz j (by omega)))
    · replace h1 : ¬ (r ≤ dD T k) := fun hh => h1 ((nI_leI (a := r) (b := (dD T k)) (by omega) (by omega)).mpr hh)
      refine w_blk 7 (pc' := 38) (ls' := [some (.ref 34), some (.ref 5), some (.int (nI k)), some (.int 1), none]) (sk' := [.int 1, .int (nI k), .ref 38]) (st' := s0) (fun _ h => h) ?_
      refine w_if_eq rfl (fun hno => absurd hno (by decide)) (fun _ => ?_)
      refine w_blk 2 (pc' := 47) (ls' := [some (.ref 34), some (.ref 5), some (.int (nI k)), some (.int 1), none]) (sk' := [.int 0, .int (nI k), .ref 38]) (st' := s0) (fun _ h => h) ?_
      refine w_callS (As := [.ref 38, .int (nI k), .int 0]) (rest := []) rfl rfl rfl (Nat.le_of_ble_eq_true rfl) (Nat.le_of_ble_eq_true rfl) (c_putK (d + 2) 38 6 k 0 s0 (by omega) (by decide) rfl) ?_
      refine w_blk 1 (pc' := 53) (ls' := [some (.ref 34), some (.ref 5), some (.int ((nI k) + 1)), some (.int 1), none]) (sk' := []) (st' := ((mU s0.1 38 k 0), s0.2)) (fun _ h => h) ?_
      rw [show ((nI k) + 1) = nI (k + 1) from nI_add k 1]
      refine w_blk 1 (pc' := 2) (ls' := [some (.ref 34), some (.ref 5), some (.int (nI (k + 1))), some (.int 1), none]) (sk' := []) (st' := ((mU s0.1 38 k 0), s0.2)) (fun _ h => h) ?_
      exact ih (k + 1) ((mU s0.1 38 k 0), s0.2) _ (by omega) (Fr.trans hf (Fr.mU (by decide))) (fun j hj => if ej : j = k then (by rw [ej]; exact (mU_at (f := s0.1) (p := 38) (k := k)).trans (by rw [if_pos (show dD T k < r by omega)]; exact iI_0)) else (mU_row ej).trans (hz j (by omega)))
set_option maxRecDepth 20000 in
/-- findChains(crew) -/
theorem c_findChains_13 (d : Nat) (n : Nat → Nat) (c : Nat → Nat → Nat) (E T : EdT) (r : Nat) (p : Nat → Int) (G : Int) (st : mSt) (hX : X13 st n c) (hB : CB n c) (hEn : ∀ d s, d < 6 → s < 8 → E d s = true → d < n 0 ∧ s < n 1) (hTE : ∀ d s, d < 6 → s < 8 → T d s = true → E d s = true) (hRd : st.1 34 0 = nI r) (hO : XOp st E) (hT : XTk st T) (hPV : PV E T (wF n c false) r (n 0) p G) (hr : r ≤ 8) : ∃ (s : mSt), mMC mT (d + 4) 33 [.ref 34, .ref 13] st (none) s ∧ XLb s n (fin_ T E (wF n c false) r (n 0)) ∧ Fr [38, 39, 40, 41] st s := by
  suffices H : ∀ Q : Option Value → mSt → Prop, (∀ (s : mSt), (XLb s n (fin_ T E (wF n c false) r (n 0)) ∧ Fr [38, 39, 40, 41] st s) → Q (none) s) → mW (mMC mT (d + 3)) (0, fun _ => 0) (mAtL P_X2_findChains) none Q 0 [some (.ref 34), some (.ref 13), none, none, none] [] st by
    obtain ⟨_, _, ⟨s, rfl, rfl, hp⟩, hw⟩ := mW_ex (H (fun vv tt => ∃ (s : mSt),  vv = none ∧ s = tt ∧ XLb s n (fin_ T E (wF n c false) r (n 0)) ∧ Fr [38, 39, 40, 41] st s) (fun s hp => ⟨s, rfl, rfl, hp⟩))
    exact ⟨s, mI_X2_findChains (d := d + 3) (Nat.le_of_ble_eq_true rfl) hw, hp⟩
  intro Q hq
  obtain ⟨hb0, hb1, hb2, hbd, hbs, hby⟩ := id hB
  have hww := wF_WB hB false
  have hNO : NOi = -1000000 := rfl
  have turns : ∀ (m i : Nat) (z : Int32) (s0 : mSt) (l4 : Option Value), i + m = 14 → (z = 0 ∨ z = 1) → (z = 0 → 1 ≤ i ∧ tn (fA T E (wF n c false)) (ini T r (n 0)) i = tn (fA T E (wF n c false)) (ini T r (n 0)) (i - 1)) → XLb s0 n (tn (fA T E (wF n c false)) (ini T r (n 0)) i) → Fr [38, 39, 40, 41] st s0 → mW (mMC mT (d + 3)) (0, fun _ => 0) (mAtL P_X2_findChains) none Q 78 [some (.ref 34), some (.ref 13), some (.int z), some (.int (nI i)), l4] [] s0 := by
    intro m
    induction m with
    | zero =>
      intro i z s0 l4 hi hz hsm hL0 hf
      obtain rfl : i = 14 := by omega
      refine w_blk 2 (pc' := 81) (ls' := [some (.ref 34), some (.ref 13), some (.int z), some (.int (nI 14)), l4]) (sk' := [.int 14, .int (nI 14)]) (st' := s0) (fun _ h => h) ?_
      refine w_cmp_ge rfl (fun _ => ?_) (fun hno => absurd (Int32.le_refl _) hno)
      exact w_vret rfl rfl (hq s0 ⟨by have h9 : (fin_ T E (wF n c false) r (n 0)) = tn (fA T E (wF n c false)) (ini T r (n 0)) 14 := (fin_more hPV hww 1).symm; rw [h9]; exact hL0, hf⟩)
    | succ m ih =>
      intro i z s0 l4 hi hz hsm hL0 hf
      refine w_blk 2 (pc' := 81) (ls' := [some (.ref 34), some (.ref 13), some (.int z), some (.int (nI i)), l4]) (sk' := [.int 14, .int (nI i)]) (st' := s0) (fun _ h => h) ?_
      refine w_cmp_ge rfl (fun hno => absurd hno (nI_ge (a := i) (b := 14) (by omega) (by omega))) (fun _ => ?_)
      refine w_blk 1 (pc' := 85) (ls' := [some (.ref 34), some (.ref 13), some (.int z), some (.int (nI i)), l4]) (sk' := [.int z]) (st' := s0) (fun _ h => h) ?_
      rcases hz with hz | hz
      · subst hz
        refine w_if_eq rfl (fun _ => ?_) (fun hno => absurd rfl hno)
        exact w_vret rfl rfl (hq s0 ⟨by have h9 : (fin_ T E (wF n c false) r (n 0)) = tn (fA T E (wF n c false)) (ini T r (n 0)) i := (by obtain ⟨h8, h7⟩ := hsm rfl; have h6 := tn_early (A := (fA T E (wF n c false))) (s := (ini T r (n 0))) (i := i - 1) (by rw [show i - 1 + 1 = i by omega]; exact h7) (13 - (i - 1)); rw [show i - 1 + (13 - (i - 1)) = 13 by omega] at h6; exact h6.trans h7.symm); rw [h9]; exact hL0, hf⟩)
      · subst hz
        refine w_if_eq rfl (fun hno => absurd hno (by decide)) (fun _ => ?_)
        refine w_blk 4 (pc' := 93) (ls' := [some (.ref 34), some (.ref 13), some (.int 0), some (.int (nI i)), some (.int 0)]) (sk' := []) (st' := s0) (fun _ h => h) ?_
        suffices key : ∀ (m2 d0 : Nat) (zz : Int32) (s1 : mSt), d0 + m2 = 6 → (zz = 0 ∨ zz = 1) → (zz = 0 → rk (fA T E (wF n c false)) (tn (fA T E (wF n c false)) (ini T r (n 0)) i) (8 * d0) = (tn (fA T E (wF n c false)) (ini T r (n 0)) i)) → XLb s1 n (rk (fA T E (wF n c false)) (tn (fA T E (wF n c false)) (ini T r (n 0)) i) (8 * d0)) → Fr [38, 39, 40, 41] st s1 → mW (mMC mT (d + 3)) (0, fun _ => 0) (mAtL P_X2_findChains) none Q 93 [some (.ref 34), some (.ref 13), some (.int zz), some (.int (nI i)), some (.int (nI d0))] [] s1 from key 6 0 0 s0 (by omega) (Or.inl rfl) (fun _ => rfl) hL0 hf
        intro m2
        induction m2 with
        | zero =>
          intro d0 zz s1 hd hzz hsame hL1 hf1
          obtain rfl : d0 = 6 := by omega
          refine w_blk 2 (pc' := 97) (ls' := [some (.ref 34), some (.ref 13), some (.int zz), some (.int (nI i)), some (.int (nI 6))]) (sk' := [.int 6, .int (nI 6)]) (st' := s1) (fun _ h => h) ?_
          refine w_cmp_ge rfl (fun _ => ?_) (fun hno => absurd (Int32.le_refl _) hno)
          refine w_blk 1 (pc' := 119) (ls' := [some (.ref 34), some (.ref 13), some (.int zz), some (.int ((nI i) + 1)), some (.int (nI 6))]) (sk' := []) (st' := s1) (fun _ h => h) ?_
          rw [show ((nI i) + 1) = nI (i + 1) from nI_add i 1]
          refine w_blk 1 (pc' := 78) (ls' := [some (.ref 34), some (.ref 13), some (.int zz), some (.int (nI (i + 1))), some (.int (nI 6))]) (sk' := []) (st' := s1) (fun _ h => h) ?_
          exact ih (i + 1) zz s1 _ (by omega) hzz (fun h9 => ⟨by omega, hsame h9⟩) hL1 hf1
        | succ m2 ih2 =>
          intro d0 zz s1 hd hzz hsame hL1 hf1
          have hd6 : d0 < 6 := by omega
          have hX1 : X13 s1 n c := X13_fr hf1 (by decide) hX
          obtain ⟨z2, s2, hc2, hz2, hs2, hL2, hf2⟩ := c_lenBy_13 (d + 0) n c E T (tn (fA T E (wF n c false)) (ini T r (n 0)) i) d0 s1 hX1 hB hEn hTE (fun d hd => by rw [hf1.1 35 (by decide)]; exact hO d hd) (fun d hd => by rw [hf1.1 36 (by decide)]; exact hT d hd) hd6 hL1 (fun k v hk => LBD_at hww (by omega) hk v)
          refine w_blk 2 (pc' := 97) (ls' := [some (.ref 34), some (.ref 13), some (.int zz), some (.int (nI i)), some (.int (nI d0))]) (sk' := [.int 6, .int (nI d0)]) (st' := s1) (fun _ h => h) ?_
          refine w_cmp_ge rfl (fun hno => absurd hno (nI_ge (a := d0) (b := 6) hd6 (by omega))) (fun _ => ?_)
          refine w_blk 4 (pc' := 105) (ls' := [some (.ref 34), some (.ref 13), some (.int zz), some (.int (nI i)), some (.int (nI d0))]) (sk' := [.int (nI d0), .ref 13, .ref 34, .int zz]) (st' := s1) (fun _ h => h) ?_
          refine w_callV (As := [.ref 34, .ref 13, .int (nI d0)]) (rest := [.int zz]) rfl rfl rfl (Nat.le_of_ble_eq_true rfl) (Nat.le_of_ble_eq_true rfl) (by first | exact Or.inl ⟨rfl, rfl⟩ | exact Or.inr ⟨rfl, rfl⟩) hc2 ?_
          refine w_blk 3 (pc' := 113) (ls' := [some (.ref 34), some (.ref 13), some (.int (zz ||| z2)), some (.int (nI i)), some (.int ((nI d0) + 1))]) (sk' := []) (st' := s2) (fun _ h => h) ?_
          rw [show ((nI d0) + 1) = nI (d0 + 1) from nI_add d0 1]
          refine w_blk 1 (pc' := 93) (ls' := [some (.ref 34), some (.ref 13), some (.int (zz ||| z2)), some (.int (nI i)), some (.int (nI (d0 + 1)))]) (sk' := []) (st' := s2) (fun _ h => h) ?_
          have hor : (zz ||| z2 = 0 ∨ zz ||| z2 = 1) ∧ (zz ||| z2 = 0 → zz = 0 ∧ z2 = 0) := by rcases hzz with rfl | rfl <;> rcases hz2 with rfl | rfl <;> decide
          exact ih2 (d0 + 1) (zz ||| z2) s2 (by omega) hor.1 (fun h9 => (hs2 (hor.2 h9).2).trans (hsame (hor.2 h9).1)) hL2 (Fr.trans hf1 hf2)
  refine w_blk 2 (pc' := 2) (ls' := [some (.ref 34), some (.ref 13), some (.int 0), none, none]) (sk' := []) (st' := st) (fun _ h => h) ?_
  suffices bd : ∀ (m k : Nat) (s0 : mSt) (l3 : Option Value), k + m = 6 → Fr [38, 39, 40, 41] st s0 → (∀ d, d < k → s0.1 38 d = iI (if dD T d < r then 0 else NOi)) → mW (mMC mT (d + 3)) (0, fun _ => 0) (mAtL P_X2_findChains) none Q 2 [some (.ref 34), some (.ref 13), some (.int (nI k)), l3, none] [] s0 from bd 6 0 st none (by omega) Fr.rf (fun j hj => absurd hj (by omega))
  intro m
  induction m with
  | zero =>
    intro k s0 l3 hk hf hz
    obtain rfl : k = 6 := by omega
    refine w_blk 2 (pc' := 5) (ls' := [some (.ref 34), some (.ref 13), some (.int (nI 6)), l3, none]) (sk' := [.int 6, .int (nI 6)]) (st' := s0) (fun _ h => h) ?_
    refine w_cmp_ge rfl (fun _ => ?_) (fun hno => absurd (Int32.le_refl _) hno)
    refine w_blk 3 (pc' := 62) (ls' := [some (.ref 34), some (.ref 13), some (.int (nI 6)), l3, none]) (sk' := [.int (-9), .ref 40]) (st' := s0) (fun _ h => h) ?_
    refine w_callS (As := [.ref 40, .int (-9)]) (rest := []) rfl rfl rfl (Nat.le_of_ble_eq_true rfl) (Nat.le_of_ble_eq_true rfl) (c_fill (d + 2) 40 6 (-9) s0 (by decide) rfl) ?_
    have hA1 : ∀ d, d < 6 → (filU s0.1 40 6 (-9)) 38 d = iI (if dD T d < r then 0 else NOi) := fun d hd => (congrFun (filU_ne (by decide)) d).trans (hz d hd)
    have hA2 : ∀ d, d < 6 → (filU s0.1 40 6 (-9)) 40 d = -9 := fun d hd => filU_at hd
    have hA3 : Fr [38, 39, 40, 41] st (filU s0.1 40 6 (-9), s0.2) := Fr.trans hf (Fr.fil (by decide))
    generalize hs4 : ((filU s0.1 40 6 (-9), s0.2) : mSt) = s4 at hA3 ⊢
    have hA1 : ∀ d, d < 6 → s4.1 38 d = iI (if dD T d < r then 0 else NOi) := fun d hd => by rw [← hs4]; exact hA1 d hd
    have hA2 : ∀ d, d < 6 → s4.1 40 d = -9 := fun d hd => by rw [← hs4]; exact hA2 d hd
    refine w_blk 2 (pc' := 69) (ls' := [some (.ref 34), some (.ref 13), some (.int (nI 6)), l3, none]) (sk' := [.ref 39]) (st' := s4) (fun _ h => h) ?_
    refine w_ldcN rfl ?_
    show mW (mMC mT (d + 3)) (0, fun _ => 0) (mAtL P_X2_findChains) none Q 71 [some (.ref 34), some (.ref 13), some (.int (nI 6)), l3, none] [.int (iI NOi), .ref 39] s4
    refine w_callS (As := [.ref 39, .int (iI NOi)]) (rest := []) rfl rfl rfl (Nat.le_of_ble_eq_true rfl) (Nat.le_of_ble_eq_true rfl) (c_fill (d + 2) 39 8 (iI NOi) s4 (by decide) rfl) ?_
    refine w_blk 4 (pc' := 78) (ls' := [some (.ref 34), some (.ref 13), some (.int 1), some (.int 0), none]) (sk' := []) (st' := (filU s4.1 39 8 (iI NOi), s4.2)) (fun _ h => h) ?_
    exact turns 14 0 1 (filU s4.1 39 8 (iI NOi), s4.2) none (by omega) (Or.inr rfl) (fun h9 => absurd h9 (by decide)) ⟨fun d hd => ((congrFun (filU_ne (f := s4.1) (a := 39) (n := 8) (q := 38) (x := iI NOi) (by decide)) d).trans (hA1 d (by omega))).trans (congrArg iI (show (if dD T d < r then 0 else NOi) = (ini T r (n 0)).1 d from by
          show _ = (if d < 6 ∧ d < n 0 ∧ dD T d < r then (0 : Int) else NOi)
          by_cases e : dD T d < r
          · rw [if_pos e, if_pos ⟨by omega, hd, e⟩]
          · rw [if_neg e, if_neg (fun hh => e hh.2.2)])), fun s hs => (filU_at hs).trans (congrArg iI (show NOi = (ini T r (n 0)).1 (6 + s) from (if_neg (by omega)).symm)), fun d hd => (congrFun (filU_ne (f := s4.1) (a := 39) (n := 8) (q := 40) (x := iI NOi) (by decide)) d).trans (hA2 d hd), fun s hs hne => absurd (show (ini T r (n 0)).1 (6 + s) = NOi from if_neg (by omega)) hne⟩ (Fr.trans hA3 (Fr.fil (by decide)))
  | succ m ih =>
    intro k s0 l3 hk hf hz
    have hk6 : k < 6 := by omega
    have hT0 : XTk s0 T := fun d hd => by rw [hf.1 36 (by decide)]; exact hT d hd
    have hRd0 : s0.1 34 0 = nI r := by rw [hf.1 34 (by decide)]; exact hRd
    have htb := tbs_256 T k
    have htp := tbs_pop T k
    have hd8 := dD_8 T k
    refine w_blk 2 (pc' := 5) (ls' := [some (.ref 34), some (.ref 13), some (.int (nI k)), l3, none]) (sk' := [.int 6, .int (nI k)]) (st' := s0) (fun _ h => h) ?_
    refine w_cmp_ge rfl (fun hno => absurd hno (nI_ge (a := k) (b := 6) hk6 (by omega))) (fun _ => ?_)
    refine w_blk 3 (pc' := 13) (ls' := [some (.ref 34), some (.ref 13), some (.int (nI k)), l3, none]) (sk' := [.int (nI k), .ref 36]) (st' := s0) (fun _ h => h) ?_
    refine w_callS (As := [.ref 36, .int (nI k)]) (rest := []) rfl rfl rfl (Nat.le_of_ble_eq_true rfl) (Nat.le_of_ble_eq_true rfl) (c_cellK (d + 2) 36 6 k s0 (by omega) (by decide) rfl) ?_
    rw [hT0 k (by omega)]
    refine w_callS (As := [.int (nI (tbs T k))]) (rest := []) rfl rfl rfl (Nat.le_of_ble_eq_true rfl) (Nat.le_of_ble_eq_true rfl) (c_bitCountK (d + 2) (tbs T k) s0 (by omega)) ?_
    rw [htp]
    refine w_blk 2 (pc' := 23) (ls' := [some (.ref 34), some (.ref 13), some (.int (nI k)), l3, none]) (sk' := [.int (s0.1 34 0), .int (nI (dD T k))]) (st' := s0) (fun _ h => h) ?_
    rw [hRd0]
    refine w_cmp_ge rfl (fun h1 => ?_) (fun h1 => ?_)
    · replace h1 : r ≤ dD T k := (nI_leI (a := r) (b := (dD T k)) (by omega) (by omega)).mp h1
      refine w_blk 6 (pc' := 38) (ls' := [some (.ref 34), some (.ref 13), some (.int (nI k)), some (.int 0), none]) (sk' := [.int 0, .int (nI k), .ref 38]) (st' := s0) (fun _ h => h) ?_
      refine w_if_eq rfl (fun _ => ?_) (fun hno => absurd (by decide) hno)
      refine w_ldcN rfl ?_
      show mW (mMC mT (d + 3)) (0, fun _ => 0) (mAtL P_X2_findChains) none Q 47 [some (.ref 34), some (.ref 13), some (.int (nI k)), some (.int 0), none] [.int (iI NOi), .int (nI k), .ref 38] s0
      refine w_callS (As := [.ref 38, .int (nI k), .int (iI NOi)]) (rest := []) rfl rfl rfl (Nat.le_of_ble_eq_true rfl) (Nat.le_of_ble_eq_true rfl) (c_putK (d + 2) 38 6 k (iI NOi) s0 (by omega) (by decide) rfl) ?_
      refine w_blk 1 (pc' := 53) (ls' := [some (.ref 34), some (.ref 13), some (.int ((nI k) + 1)), some (.int 0), none]) (sk' := []) (st' := ((mU s0.1 38 k (iI NOi)), s0.2)) (fun _ h => h) ?_
      rw [show ((nI k) + 1) = nI (k + 1) from nI_add k 1]
      refine w_blk 1 (pc' := 2) (ls' := [some (.ref 34), some (.ref 13), some (.int (nI (k + 1))), some (.int 0), none]) (sk' := []) (st' := ((mU s0.1 38 k (iI NOi)), s0.2)) (fun _ h => h) ?_
      exact ih (k + 1) ((mU s0.1 38 k (iI NOi)), s0.2) _ (by omega) (Fr.trans hf (Fr.mU (by decide))) (fun j hj => if ej : j = k then (by rw [ej]; exact (mU_at (f := s0.1) (p := 38) (k := k)).trans (by rw [if_neg (show ¬ dD T k < r by omega)])) else (mU_row ej).trans (hz j (by omega)))
    · replace h1 : ¬ (r ≤ dD T k) := fun hh => h1 ((nI_leI (a := r) (b := (dD T k)) (by omega) (by omega)).mpr hh)
      refine w_blk 7 (pc' := 38) (ls' := [some (.ref 34), some (.ref 13), some (.int (nI k)), some (.int 1), none]) (sk' := [.int 1, .int (nI k), .ref 38]) (st' := s0) (fun _ h => h) ?_
      refine w_if_eq rfl (fun hno => absurd hno (by decide)) (fun _ => ?_)
      refine w_blk 2 (pc' := 47) (ls' := [some (.ref 34), some (.ref 13), some (.int (nI k)), some (.int 1), none]) (sk' := [.int 0, .int (nI k), .ref 38]) (st' := s0) (fun _ h => h) ?_
      refine w_callS (As := [.ref 38, .int (nI k), .int 0]) (rest := []) rfl rfl rfl (Nat.le_of_ble_eq_true rfl) (Nat.le_of_ble_eq_true rfl) (c_putK (d + 2) 38 6 k 0 s0 (by omega) (by decide) rfl) ?_
      refine w_blk 1 (pc' := 53) (ls' := [some (.ref 34), some (.ref 13), some (.int ((nI k) + 1)), some (.int 1), none]) (sk' := []) (st' := ((mU s0.1 38 k 0), s0.2)) (fun _ h => h) ?_
      rw [show ((nI k) + 1) = nI (k + 1) from nI_add k 1]
      refine w_blk 1 (pc' := 2) (ls' := [some (.ref 34), some (.ref 13), some (.int (nI (k + 1))), some (.int 1), none]) (sk' := []) (st' := ((mU s0.1 38 k 0), s0.2)) (fun _ h => h) ?_
      exact ih (k + 1) ((mU s0.1 38 k 0), s0.2) _ (by omega) (Fr.trans hf (Fr.mU (by decide))) (fun j hj => if ej : j = k then (by rw [ej]; exact (mU_at (f := s0.1) (p := 38) (k := k)).trans (by rw [if_pos (show dD T k < r by omega)]; exact iI_0)) else (mU_row ej).trans (hz j (by omega)))
def eM (x : LabT) : Option Nat → Int32
  | none => 0
  | some f => iI (x.1 (6 + f))
set_option maxRecDepth 20000 in
/-- bestLastSpade() -/
theorem c_best (d : Nat) (n : Nat → Nat) (T : EdT) (x : LabT) (r : Nat) (st : mSt) (hn : n 0 ≤ 6) (hL : XLb st n x) (hD : XLd st T) (hRd : st.1 34 0 = nI r) (hr : r ≤ 8) (hS8 : ∀ s, s < 8 → dS T s ≤ r) (hlab : ∀ v, x.1 v = NOi ∨ (-800000 ≤ x.1 v ∧ x.1 v ≤ 800000)) : mMC mT (d + 2) 37 [.ref 34] st (some (.int (eO (bstO x T r 8)))) st := by
  refine mI_X2_bestLastSpade (d := d + 1) (Nat.le_of_ble_eq_true rfl) (fun Q hq => ?_)
  show mW (mMC mT (d + 1)) (0, fun _ => 0) (mAtL P_X2_bestLastSpade) (some .int) Q 0 [some (.ref 34), none, none, none] [] st
  have hNO : NOi = -1000000 := rfl
  refine w_blk 6 (pc' := 7) (ls' := [some (.ref 34), some (.int (-9)), some (.int 0), some (.int 0)]) (sk' := []) (st' := st) (fun _ h => h) ?_
  suffices key : ∀ (m k : Nat), k + m = 8 → mW (mMC mT (d + 1)) (0, fun _ => 0) (mAtL P_X2_bestLastSpade) (some .int) Q 7 [some (.ref 34), some (.int (eO (bstO x T r k))), some (.int (eM x (bstO x T r k))), some (.int (nI k))] [] st from key 8 0 (by omega)
  intro m
  induction m with
  | zero =>
    intro k hk
    obtain rfl : k = 8 := by omega
    refine w_blk 2 (pc' := 10) (ls' := [some (.ref 34), some (.int (eO (bstO x T r 8))), some (.int (eM x (bstO x T r 8))), some (.int (nI 8))]) (sk' := [.int 8, .int (nI 8)]) (st' := st) (fun _ h => h) ?_
    refine w_cmp_ge rfl (fun _ => ?_) (fun hno => absurd (Int32.le_refl _) hno)
    refine w_blk 1 (pc' := 58) (ls' := [some (.ref 34), some (.int (eO (bstO x T r 8))), some (.int (eM x (bstO x T r 8))), some (.int (nI 8))]) (sk' := [.int (eO (bstO x T r 8))]) (st' := st) (fun _ h => h) ?_
    exact w_iret rfl rfl rfl hq
  | succ m ih =>
    intro k hk
    have hk8 : k < 8 := by omega
    have hSk := hS8 k hk8
    have hlk := hlab (6 + k)
    rcases e : bstO x T r k with _ | f
    · show mW (mMC mT (d + 1)) (0, fun _ => 0) (mAtL P_X2_bestLastSpade) (some .int) Q 7 [some (.ref 34), some (.int (-9)), some (.int 0), some (.int (nI k))] [] st
      refine w_blk 2 (pc' := 10) (ls' := [some (.ref 34), some (.int (-9)), some (.int 0), some (.int (nI k))]) (sk' := [.int 8, .int (nI k)]) (st' := st) (fun _ h => h) ?_
      refine w_cmp_ge rfl (fun hno => absurd hno (nI_ge (a := k) (b := 8) hk8 (by omega))) (fun _ => ?_)
      refine w_blk 3 (pc' := 18) (ls' := [some (.ref 34), some (.int (-9)), some (.int 0), some (.int (nI k))]) (sk' := [.int (nI k), .ref 37]) (st' := st) (fun _ h => h) ?_
      refine w_callS (As := [.ref 37, .int (nI k)]) (rest := []) rfl rfl rfl (Nat.le_of_ble_eq_true rfl) (Nat.le_of_ble_eq_true rfl) (c_cellK (d + 0) 37 8 k st (by omega) (by decide) rfl) ?_
      rw [hD k (by omega)]
      refine w_blk 2 (pc' := 25) (ls' := [some (.ref 34), some (.int (-9)), some (.int 0), some (.int (nI k))]) (sk' := [.int (st.1 34 0), .int (nI (dS T k))]) (st' := st) (fun _ h => h) ?_
      rw [hRd]
      refine w_cmp_ge rfl (fun h1 => ?_) (fun h1 => ?_)
      · replace h1 : r ≤ dS T k := (nI_leI (a := r) (b := (dS T k)) (by omega) (by omega)).mp h1
        refine w_blk 1 (pc' := 54) (ls' := [some (.ref 34), some (.int (-9)), some (.int 0), some (.int ((nI k) + 1))]) (sk' := []) (st' := st) (fun _ h => h) ?_
        rw [show ((nI k) + 1) = nI (k + 1) from nI_add k 1]
        refine w_blk 1 (pc' := 7) (ls' := [some (.ref 34), some (.int (-9)), some (.int 0), some (.int (nI (k + 1)))]) (sk' := []) (st' := st) (fun _ h => h) ?_
        exact (by have hh := ih (k + 1) (by omega); rw [show bstO x T r (k + 1) = none from by first | exact (b_no (fun hh => by omega)).trans e | exact b_new ⟨by omega, by omega⟩ e | exact b_les ⟨by omega, by omega⟩ e (by omega) | exact b_ge ⟨by omega, by omega⟩ e (by omega) | exact (if hp : dS T k < r ∧ 0 < x.1 (6 + k) then b_ge hp e (by omega) else (b_no hp).trans e)] at hh; exact hh)
      · replace h1 : ¬ (r ≤ dS T k) := fun hh => h1 ((nI_leI (a := r) (b := (dS T k)) (by omega) (by omega)).mpr hh)
        refine w_blk 3 (pc' := 33) (ls' := [some (.ref 34), some (.int (-9)), some (.int 0), some (.int (nI k))]) (sk' := [.int (nI k), .ref 39]) (st' := st) (fun _ h => h) ?_
        refine w_callS (As := [.ref 39, .int (nI k)]) (rest := []) rfl rfl rfl (Nat.le_of_ble_eq_true rfl) (Nat.le_of_ble_eq_true rfl) (c_cellK (d + 0) 39 8 k st (by omega) (by decide) rfl) ?_
        rw [hL.2.1 k (by omega)]
        refine w_blk 1 (pc' := 37) (ls' := [some (.ref 34), some (.int (-9)), some (.int 0), some (.int (nI k))]) (sk' := [.int 0, .int (iI (x.1 (6 + k)))]) (st' := st) (fun _ h => h) ?_
        refine w_cmp_le rfl (fun h2 => ?_) (fun h2 => ?_)
        · replace h2 : x.1 (6 + k) ≤ (0 : Int) := by rw [iI_0] at h2; exact (iI_le (a := x.1 (6 + k)) (b := (0 : Int)) (by omega) (by omega) (by omega) (by omega)).mp h2
          refine w_blk 1 (pc' := 54) (ls' := [some (.ref 34), some (.int (-9)), some (.int 0), some (.int ((nI k) + 1))]) (sk' := []) (st' := st) (fun _ h => h) ?_
          rw [show ((nI k) + 1) = nI (k + 1) from nI_add k 1]
          refine w_blk 1 (pc' := 7) (ls' := [some (.ref 34), some (.int (-9)), some (.int 0), some (.int (nI (k + 1)))]) (sk' := []) (st' := st) (fun _ h => h) ?_
          exact (by have hh := ih (k + 1) (by omega); rw [show bstO x T r (k + 1) = none from by first | exact (b_no (fun hh => by omega)).trans e | exact b_new ⟨by omega, by omega⟩ e | exact b_les ⟨by omega, by omega⟩ e (by omega) | exact b_ge ⟨by omega, by omega⟩ e (by omega) | exact (if hp : dS T k < r ∧ 0 < x.1 (6 + k) then b_ge hp e (by omega) else (b_no hp).trans e)] at hh; exact hh)
        · replace h2 : ¬ (x.1 (6 + k) ≤ (0 : Int)) := fun hh => h2 (by rw [iI_0]; exact (iI_le (a := x.1 (6 + k)) (b := (0 : Int)) (by omega) (by omega) (by omega) (by omega)).mpr hh)
          refine w_blk 3 (pc' := 45) (ls' := [some (.ref 34), some (.int (-9)), some (.int 0), some (.int (nI k))]) (sk' := [.int (nI k), .ref 39]) (st' := st) (fun _ h => h) ?_
          refine w_callS (As := [.ref 39, .int (nI k)]) (rest := []) rfl rfl rfl (Nat.le_of_ble_eq_true rfl) (Nat.le_of_ble_eq_true rfl) (c_cellK (d + 0) 39 8 k st (by omega) (by decide) rfl) ?_
          rw [hL.2.1 k (by omega)]
          refine w_blk 4 (pc' := 54) (ls' := [some (.ref 34), some (.int (nI k)), some (.int (iI (x.1 (6 + k)))), some (.int ((nI k) + 1))]) (sk' := []) (st' := st) (fun _ h => h) ?_
          rw [show ((nI k) + 1) = nI (k + 1) from nI_add k 1]
          refine w_blk 1 (pc' := 7) (ls' := [some (.ref 34), some (.int (nI k)), some (.int (iI (x.1 (6 + k)))), some (.int (nI (k + 1)))]) (sk' := []) (st' := st) (fun _ h => h) ?_
          exact (by have hh := ih (k + 1) (by omega); rw [show bstO x T r (k + 1) = some k from by first | exact (b_no (fun hh => by omega)).trans e | exact b_new ⟨by omega, by omega⟩ e | exact b_les ⟨by omega, by omega⟩ e (by omega) | exact b_ge ⟨by omega, by omega⟩ e (by omega) | exact (if hp : dS T k < r ∧ 0 < x.1 (6 + k) then b_ge hp e (by omega) else (b_no hp).trans e)] at hh; exact hh)
    · have hfk := ((bstO_spec (x := x) (T := T) (r := r) k).2 f e).1
      have hfp := ((bstO_spec (x := x) (T := T) (r := r) k).2 f e).2.1.2
      have hlf := hlab (6 + f)
      show mW (mMC mT (d + 1)) (0, fun _ => 0) (mAtL P_X2_bestLastSpade) (some .int) Q 7 [some (.ref 34), some (.int (nI f)), some (.int (iI (x.1 (6 + f)))), some (.int (nI k))] [] st
      refine w_blk 2 (pc' := 10) (ls' := [some (.ref 34), some (.int (nI f)), some (.int (iI (x.1 (6 + f)))), some (.int (nI k))]) (sk' := [.int 8, .int (nI k)]) (st' := st) (fun _ h => h) ?_
      refine w_cmp_ge rfl (fun hno => absurd hno (nI_ge (a := k) (b := 8) hk8 (by omega))) (fun _ => ?_)
      refine w_blk 3 (pc' := 18) (ls' := [some (.ref 34), some (.int (nI f)), some (.int (iI (x.1 (6 + f)))), some (.int (nI k))]) (sk' := [.int (nI k), .ref 37]) (st' := st) (fun _ h => h) ?_
      refine w_callS (As := [.ref 37, .int (nI k)]) (rest := []) rfl rfl rfl (Nat.le_of_ble_eq_true rfl) (Nat.le_of_ble_eq_true rfl) (c_cellK (d + 0) 37 8 k st (by omega) (by decide) rfl) ?_
      rw [hD k (by omega)]
      refine w_blk 2 (pc' := 25) (ls' := [some (.ref 34), some (.int (nI f)), some (.int (iI (x.1 (6 + f)))), some (.int (nI k))]) (sk' := [.int (st.1 34 0), .int (nI (dS T k))]) (st' := st) (fun _ h => h) ?_
      rw [hRd]
      refine w_cmp_ge rfl (fun h1 => ?_) (fun h1 => ?_)
      · replace h1 : r ≤ dS T k := (nI_leI (a := r) (b := (dS T k)) (by omega) (by omega)).mp h1
        refine w_blk 1 (pc' := 54) (ls' := [some (.ref 34), some (.int (nI f)), some (.int (iI (x.1 (6 + f)))), some (.int ((nI k) + 1))]) (sk' := []) (st' := st) (fun _ h => h) ?_
        rw [show ((nI k) + 1) = nI (k + 1) from nI_add k 1]
        refine w_blk 1 (pc' := 7) (ls' := [some (.ref 34), some (.int (nI f)), some (.int (iI (x.1 (6 + f)))), some (.int (nI (k + 1)))]) (sk' := []) (st' := st) (fun _ h => h) ?_
        exact (by have hh := ih (k + 1) (by omega); rw [show bstO x T r (k + 1) = some f from by first | exact (b_no (fun hh => by omega)).trans e | exact b_new ⟨by omega, by omega⟩ e | exact b_les ⟨by omega, by omega⟩ e (by omega) | exact b_ge ⟨by omega, by omega⟩ e (by omega) | exact (if hp : dS T k < r ∧ 0 < x.1 (6 + k) then b_ge hp e (by omega) else (b_no hp).trans e)] at hh; exact hh)
      · replace h1 : ¬ (r ≤ dS T k) := fun hh => h1 ((nI_leI (a := r) (b := (dS T k)) (by omega) (by omega)).mpr hh)
        refine w_blk 3 (pc' := 33) (ls' := [some (.ref 34), some (.int (nI f)), some (.int (iI (x.1 (6 + f)))), some (.int (nI k))]) (sk' := [.int (nI k), .ref 39]) (st' := st) (fun _ h => h) ?_
        refine w_callS (As := [.ref 39, .int (nI k)]) (rest := []) rfl rfl rfl (Nat.le_of_ble_eq_true rfl) (Nat.le_of_ble_eq_true rfl) (c_cellK (d + 0) 39 8 k st (by omega) (by decide) rfl) ?_
        rw [hL.2.1 k (by omega)]
        refine w_blk 1 (pc' := 37) (ls' := [some (.ref 34), some (.int (nI f)), some (.int (iI (x.1 (6 + f)))), some (.int (nI k))]) (sk' := [.int (iI (x.1 (6 + f))), .int (iI (x.1 (6 + k)))]) (st' := st) (fun _ h => h) ?_
        refine w_cmp_le rfl (fun h2 => ?_) (fun h2 => ?_)
        · replace h2 : x.1 (6 + k) ≤ x.1 (6 + f) := by exact (iI_le (a := x.1 (6 + k)) (b := x.1 (6 + f)) (by omega) (by omega) (by omega) (by omega)).mp h2
          refine w_blk 1 (pc' := 54) (ls' := [some (.ref 34), some (.int (nI f)), some (.int (iI (x.1 (6 + f)))), some (.int ((nI k) + 1))]) (sk' := []) (st' := st) (fun _ h => h) ?_
          rw [show ((nI k) + 1) = nI (k + 1) from nI_add k 1]
          refine w_blk 1 (pc' := 7) (ls' := [some (.ref 34), some (.int (nI f)), some (.int (iI (x.1 (6 + f)))), some (.int (nI (k + 1)))]) (sk' := []) (st' := st) (fun _ h => h) ?_
          exact (by have hh := ih (k + 1) (by omega); rw [show bstO x T r (k + 1) = some f from by first | exact (b_no (fun hh => by omega)).trans e | exact b_new ⟨by omega, by omega⟩ e | exact b_les ⟨by omega, by omega⟩ e (by omega) | exact b_ge ⟨by omega, by omega⟩ e (by omega) | exact (if hp : dS T k < r ∧ 0 < x.1 (6 + k) then b_ge hp e (by omega) else (b_no hp).trans e)] at hh; exact hh)
        · replace h2 : ¬ (x.1 (6 + k) ≤ x.1 (6 + f)) := fun hh => h2 (by exact (iI_le (a := x.1 (6 + k)) (b := x.1 (6 + f)) (by omega) (by omega) (by omega) (by omega)).mpr hh)
          refine w_blk 3 (pc' := 45) (ls' := [some (.ref 34), some (.int (nI f)), some (.int (iI (x.1 (6 + f)))), some (.int (nI k))]) (sk' := [.int (nI k), .ref 39]) (st' := st) (fun _ h => h) ?_
          refine w_callS (As := [.ref 39, .int (nI k)]) (rest := []) rfl rfl rfl (Nat.le_of_ble_eq_true rfl) (Nat.le_of_ble_eq_true rfl) (c_cellK (d + 0) 39 8 k st (by omega) (by decide) rfl) ?_
          rw [hL.2.1 k (by omega)]
          refine w_blk 4 (pc' := 54) (ls' := [some (.ref 34), some (.int (nI k)), some (.int (iI (x.1 (6 + k)))), some (.int ((nI k) + 1))]) (sk' := []) (st' := st) (fun _ h => h) ?_
          rw [show ((nI k) + 1) = nI (k + 1) from nI_add k 1]
          refine w_blk 1 (pc' := 7) (ls' := [some (.ref 34), some (.int (nI k)), some (.int (iI (x.1 (6 + k)))), some (.int (nI (k + 1)))]) (sk' := []) (st' := st) (fun _ h => h) ?_
          exact (by have hh := ih (k + 1) (by omega); rw [show bstO x T r (k + 1) = some k from by first | exact (b_no (fun hh => by omega)).trans e | exact b_new ⟨by omega, by omega⟩ e | exact b_les ⟨by omega, by omega⟩ e (by omega) | exact b_ge ⟨by omega, by omega⟩ e (by omega) | exact (if hp : dS T k < r ∧ 0 < x.1 (6 + k) then b_ge hp e (by omega) else (b_no hp).trans e)] at hh; exact hh)
