/-! MEETING: the model -/
set_option maxRecDepth 20000 in
/-- stroke -/
theorem m_strokeA (d : Nat) (n : Nat → Nat) (c : Nat → Nat → Nat) (al x y am : Nat) (st : mSt) (hR : MR st n c) (hB : CB n c) (hal : sm (cl c) (n 2) = al) (hal2 : al ≤ 7128) (hxy : x + y ≤ al) (ham : am ≤ 99) (hL : ∀ k, k < n 2 → st.1 78 k = nI (lf (sm (cl c)) al x y k)) : ∃ (s : mSt), mMC mT (d + 1) 171 [.ref 53, .int (nI am), .int 1] st (some (.int (nI (min am (al - x - y))))) s ∧ (∀ k, k < n 2 → s.1 78 k = nI (lf (sm (cl c)) al (x + (min am (al - x - y))) y k)) ∧ (min am (al - x - y) = 0 → s.1 53 32 = st.1 53 32) ∧ (0 < min am (al - x - y) → ∃ z, YO c (n 2) (x + (min am (al - x - y)) - 1) z ∧ s.1 53 32 = nI z) ∧ Fr [53, 78] st s ∧ Fk 53 [32] st s ∧ s.2 = st.2 := by
  suffices H : ∀ Q : Option Value → mSt → Prop, (∀ (s : mSt), ((∀ k, k < n 2 → s.1 78 k = nI (lf (sm (cl c)) al (x + (min am (al - x - y))) y k)) ∧ (min am (al - x - y) = 0 → s.1 53 32 = st.1 53 32) ∧ (0 < min am (al - x - y) → ∃ z, YO c (n 2) (x + (min am (al - x - y)) - 1) z ∧ s.1 53 32 = nI z) ∧ Fr [53, 78] st s ∧ Fk 53 [32] st s ∧ s.2 = st.2) → Q (some (.int (nI (min am (al - x - y))))) s) → mW (mMC mT (d + 0)) (0, fun _ => 0) (mAtL P_X10_stroke) (some .int) Q 0 [some (.ref 53), some (.int (nI am)), some (.int 1), none, none, none, none] [] st by
    obtain ⟨_, _, ⟨s, rfl, rfl, hp⟩, hw⟩ := mW_ex (H (fun vv tt => ∃ (s : mSt),  vv = some (.int (nI (min am (al - x - y)))) ∧ s = tt ∧ (∀ k, k < n 2 → s.1 78 k = nI (lf (sm (cl c)) al (x + (min am (al - x - y))) y k)) ∧ (min am (al - x - y) = 0 → s.1 53 32 = st.1 53 32) ∧ (0 < min am (al - x - y) → ∃ z, YO c (n 2) (x + (min am (al - x - y)) - 1) z ∧ s.1 53 32 = nI z) ∧ Fr [53, 78] st s ∧ Fk 53 [32] st s ∧ s.2 = st.2) (fun s hp => ⟨s, rfl, rfl, hp⟩))
    exact ⟨s, mI_X10_stroke (d := d + 0) (Nat.le_of_ble_eq_true rfl) hw, hp⟩
  intro Q hq
  obtain ⟨hc0, hc1, hc2, hcd, hcs, hcy⟩ := id hB
  have hmono : ∀ i j, i ≤ j → sm (cl c) i ≤ sm (cl c) j := fun i j h => sm_mono j h
  refine w_blk 4 (pc' := 5) (ls' := [some (.ref 53), some (.int (nI am)), some (.int 1), some (.int (nI am)), some (.int 0), none, none]) (sk' := []) (st' := st) (fun _ h => h) ?_
  suffices key : ∀ (m k g : Nat) (s0 : mSt) (l5 l6 : Option Value), k + m = n 2 → g ≤ am → x + g + y ≤ al → (g = am ∨ min (sm (cl c) k) (al - y) ≤ x + g) → Fr [53, 78] st s0 → Fk 53 [32] st s0 → s0.2 = st.2 → (∀ j, j < n 2 → s0.1 78 j = nI (lf (sm (cl c)) al (x + g) y j)) → (g = 0 → s0.1 53 32 = st.1 53 32) → (0 < g → ∃ z, YO c (n 2) (x + g - 1) z ∧ s0.1 53 32 = nI z) → mW (mMC mT (d + 0)) (0, fun _ => 0) (mAtL P_X10_stroke) (some .int) Q 5 [some (.ref 53), some (.int (nI am)), some (.int 1), some (.int (nI (am - g))), some (.int (nI k)), l5, l6] [] s0 from key (n 2) 0 0 st none none (by omega) (by omega) (by omega) (Or.inr (by show min 0 _ ≤ _; omega)) Fr.rf Fk.rf rfl hL (fun _ => rfl) (fun h => absurd h (by omega))
  intro m
  induction m with
  | zero =>
    intro k g s0 l5 l6 hk hg hgx hpre hf hk0 h20 hL hy0 hy1
    have hR0 : MR s0 n c := MR_fr hf (by decide) hR
    obtain rfl : n 2 = k := by omega
    refine w_blk 4 (pc' := 12) (ls' := [some (.ref 53), some (.int (nI am)), some (.int 1), some (.int (nI (am - g))), some (.int (nI (n 2))), l5, l6]) (sk' := [.int 0, .ref 62, .int (nI (n 2))]) (st' := s0) (fun _ h => h) ?_
    refine w_iald rfl rfl (vp_in_nI (n := 0) (N := 2) (by decide) (by decide)) ?_
    rw [show Int32.toNatClampNeg (0 : Int32) = 0 from rfl]
    rw [hR0.2.2.1]
    refine w_cmp_ge rfl (fun _ => ?_) (fun hno => absurd (Int32.le_refl _) hno)
    refine w_blk 3 (pc' := 106) (ls' := [some (.ref 53), some (.int (nI am)), some (.int 1), some (.int (nI (am - g))), some (.int (nI (n 2))), l5, l6]) (sk' := [.int ((nI am) - (nI (am - g)))]) (st' := s0) (fun _ h => h) ?_
    rw [show ((nI am) - (nI (am - g))) = nI (am - (am - g)) from pk_sub (a := am) (b := am - g) (by omega)]
    have hgD : min am (al - x - y) = g := by omega
    exact w_iret rfl rfl rfl (by have hh := hq s0; rw [hgD] at hh; rw [show am - (am - g) = g by omega]; exact hh ⟨hL, hy0, hy1, hf, hk0, h20⟩)
  | succ m ih =>
    intro k g s0 l5 l6 hk hg hgx hpre hf hk0 h20 hL hy0 hy1
    have hR0 : MR s0 n c := MR_fr hf (by decide) hR
    have hk2 : k < n 2 := by omega
    have hlb : lf (sm (cl c)) al (x + g) y k ≤ al := by unfold lf; omega
    refine w_blk 4 (pc' := 12) (ls' := [some (.ref 53), some (.int (nI am)), some (.int 1), some (.int (nI (am - g))), some (.int (nI k)), l5, l6]) (sk' := [.int 0, .ref 62, .int (nI k)]) (st' := s0) (fun _ h => h) ?_
    refine w_iald rfl rfl (vp_in_nI (n := 0) (N := 2) (by decide) (by decide)) ?_
    rw [show Int32.toNatClampNeg (0 : Int32) = 0 from rfl]
    rw [hR0.2.2.1]
    refine w_cmp_ge rfl (fun hno => absurd hno (nI_ge hk2 (by omega))) (fun _ => ?_)
    refine w_blk 1 (pc' := 17) (ls' := [some (.ref 53), some (.int (nI am)), some (.int 1), some (.int (nI (am - g))), some (.int (nI k)), l5, l6]) (sk' := [.int 1]) (st' := s0) (fun _ h => h) ?_
    refine w_if_le rfl (fun hno => absurd hno (by decide)) (fun _ => ?_)
    refine w_blk 6 (pc' := 44) (ls' := [some (.ref 53), some (.int (nI am)), some (.int 1), some (.int (nI (am - g))), some (.int (nI k)), some (.int (nI k)), l6]) (sk' := [.int (nI k), .ref 78]) (st' := s0) (fun _ h => h) ?_
    refine w_iald rfl rfl (vp_in_nI (n := k) (N := 8) (by omega) (by decide)) ?_
    rw [nI_clamp (show k < 2 ^ 31 by omega)]
    rw [hL k (by omega)]
    refine w_blk 1 (pc' := 46) (ls' := [some (.ref 53), some (.int (nI am)), some (.int 1), some (.int (nI (am - g))), some (.int (nI k)), some (.int (nI k)), l6]) (sk' := [.int (nI (am - g)), .int (nI (lf (sm (cl c)) al (x + g) y k))]) (st' := s0) (fun _ h => h) ?_
    refine w_cmp_ge rfl (fun h1 => ?_) (fun h1 => ?_)
    · replace h1 : am - g ≤ lf (sm (cl c)) al (x + g) y k := (nI_leI (a := (am - g)) (b := (lf (sm (cl c)) al (x + g) y k)) (by omega) (by omega)).mp h1
      refine w_blk 2 (pc' := 62) (ls' := [some (.ref 53), some (.int (nI am)), some (.int 1), some (.int (nI (am - g))), some (.int (nI k)), some (.int (nI k)), some (.int (nI (am - g)))]) (sk' := []) (st' := s0) (fun _ h => h) ?_
      have hst := strA hmono hg hgx hpre (v := am - g) (by omega)
      refine w_blk 4 (pc' := 69) (ls' := [some (.ref 53), some (.int (nI am)), some (.int 1), some (.int (nI (am - g))), some (.int (nI k)), some (.int (nI k)), some (.int (nI (am - g)))]) (sk' := [.int (nI k), .ref 78, .int (nI k), .ref 78]) (st' := s0) (fun _ h => h) ?_
      refine w_iald rfl rfl (vp_in_nI (n := k) (N := 8) (by omega) (by decide)) ?_
      rw [nI_clamp (show k < 2 ^ 31 by omega)]
      rw [hL k (by omega)]
      refine w_blk 2 (pc' := 73) (ls' := [some (.ref 53), some (.int (nI am)), some (.int 1), some (.int (nI (am - g))), some (.int (nI k)), some (.int (nI k)), some (.int (nI (am - g)))]) (sk' := [.int ((nI (lf (sm (cl c)) al (x + g) y k)) - (nI (am - g))), .int (nI k), .ref 78]) (st' := s0) (fun _ h => h) ?_
      rw [show ((nI (lf (sm (cl c)) al (x + g) y k)) - (nI (am - g))) = nI ((lf (sm (cl c)) al (x + g) y k) - (am - g)) from pk_sub (a := lf (sm (cl c)) al (x + g) y k) (b := am - g) (by omega)]
      refine w_iast rfl rfl (vp_in_nI (n := k) (N := 8) (by omega) (by decide)) ?_
      rw [nI_clamp (show k < 2 ^ 31 by omega)]
      have hL_2 : ∀ j, j < n 2 → (((mU s0.1 78 k (nI ((lf (sm (cl c)) al (x + g) y k) - (am - g)))), s0.2)).1 78 j = nI (lf (sm (cl c)) al (x + (g + (am - g))) y j) := (fun j hj => if ej : j = k then (by rw [hst.2.2.1 j, if_pos ej, ej]; exact mU_at (f := s0.1) (p := 78) (k := k)) else (by rw [hst.2.2.1 j, if_neg ej]; exact (mU_row ej).trans (hL j hj)))
      have hF_3 : Fr [53, 78] st ((mU s0.1 78 k (nI ((lf (sm (cl c)) al (x + g) y k) - (am - g)))), s0.2) := (Fr.trans hf (Fr.mU (by decide)))
      have hK_4 : Fk 53 [32] st ((mU s0.1 78 k (nI ((lf (sm (cl c)) al (x + g) y k) - (am - g)))), s0.2) := (Fk.trans hk0 (Fk.wn (by decide)))
      have hQ_5 : (((mU s0.1 78 k (nI ((lf (sm (cl c)) al (x + g) y k) - (am - g)))), s0.2)).2 = st.2 := h20
      have hY_6 : (((mU s0.1 78 k (nI ((lf (sm (cl c)) al (x + g) y k) - (am - g)))), s0.2)).1 53 32 = s0.1 53 32 := rfl
      generalize ((mU s0.1 78 k (nI ((lf (sm (cl c)) al (x + g) y k) - (am - g)))), s0.2) = s1 at hL_2 hF_3 hK_4 hQ_5 hY_6 ⊢
      refine w_blk 3 (pc' := 78) (ls' := [some (.ref 53), some (.int (nI am)), some (.int 1), some (.int (nI (am - g))), some (.int (nI k)), some (.int (nI k)), some (.int (nI (am - g)))]) (sk' := [.int ((nI (am - g)) - (nI (am - g)))]) (st' := s1) (fun _ h => h) ?_
      rw [show ((nI (am - g)) - (nI (am - g))) = nI ((am - g) - (am - g)) from pk_sub (a := am - g) (b := am - g) (by omega)]
      refine w_blk 3 (pc' := 82) (ls' := [some (.ref 53), some (.int (nI am)), some (.int 1), some (.int (nI ((am - g) - (am - g)))), some (.int (nI k)), some (.int (nI k)), some (.int (nI (am - g)))]) (sk' := [.int (nI (am - g)), .ref 53]) (st' := s1) (fun _ h => h) ?_
      refine w_if_le rfl (fun h9 => ?_) (fun h9 => ?_)
      · replace h9 : am - g ≤ 0 := (nI_leI (a := (am - g)) (b := 0) (by omega) (by omega)).mp h9
        refine w_blk 4 (pc' := 100) (ls' := [some (.ref 53), some (.int (nI am)), some (.int 1), some (.int (nI ((am - g) - (am - g)))), some (.int ((nI k) + 1)), some (.int (nI k)), some (.int (nI (am - g)))]) (sk' := []) (st' := ((mU s1.1 53 32 (s1.1 53 32)), s1.2)) (fun _ h => h) ?_
        rw [show ((nI k) + 1) = nI (k + 1) from nI_add k 1]
        refine w_blk 1 (pc' := 5) (ls' := [some (.ref 53), some (.int (nI am)), some (.int 1), some (.int (nI ((am - g) - (am - g)))), some (.int (nI (k + 1))), some (.int (nI k)), some (.int (nI (am - g)))]) (sk' := []) (st' := ((mU s1.1 53 32 (s1.1 53 32)), s1.2)) (fun _ h => h) ?_
        exact (by have hh := ih (k + 1) (g + (am - g)) ((mU s1.1 53 32 (s1.1 53 32)), s1.2) (some (.int (nI k))) (some (.int (nI (am - g)))) (by omega) hst.2.2.2.2 hst.1 hst.2.1 (Fr.trans hF_3 (Fr.mU (by decide))) (Fk.trans hK_4 (Fk.wr (by decide))) hQ_5 (fun j hj => (congrFun (mU_ne (f := s1.1) (p := 53) (k := 32) (q := 78) (x := (s1.1 53 32)) (by decide)) j).trans (hL_2 j hj)) (fun e => (mU_at (f := s1.1) (p := 53) (k := 32)).trans (hY_6.trans (hy0 (by omega)))) (fun e => by obtain ⟨z, hz, he⟩ := hy1 (by omega); exact ⟨z, by rw [show x + (g + (am - g)) - 1 = x + g - 1 by omega]; exact hz, (mU_at (f := s1.1) (p := 53) (k := 32)).trans (hY_6.trans he)⟩); rw [show am - (g + (am - g)) = am - g - (am - g) by omega] at hh; exact hh)
      · replace h9 : ¬ (am - g ≤ 0) := fun hh => h9 ((nI_leI (a := (am - g)) (b := 0) (by omega) (by omega)).mpr hh)
        refine w_blk 4 (pc' := 100) (ls' := [some (.ref 53), some (.int (nI am)), some (.int 1), some (.int (nI ((am - g) - (am - g)))), some (.int ((nI k) + 1)), some (.int (nI k)), some (.int (nI (am - g)))]) (sk' := []) (st' := ((mU s1.1 53 32 (nI k)), s1.2)) (fun _ h => h) ?_
        rw [show ((nI k) + 1) = nI (k + 1) from nI_add k 1]
        refine w_blk 1 (pc' := 5) (ls' := [some (.ref 53), some (.int (nI am)), some (.int 1), some (.int (nI ((am - g) - (am - g)))), some (.int (nI (k + 1))), some (.int (nI k)), some (.int (nI (am - g)))]) (sk' := []) (st' := ((mU s1.1 53 32 (nI k)), s1.2)) (fun _ h => h) ?_
        exact (by have hh := ih (k + 1) (g + (am - g)) ((mU s1.1 53 32 (nI k)), s1.2) (some (.int (nI k))) (some (.int (nI (am - g)))) (by omega) hst.2.2.2.2 hst.1 hst.2.1 (Fr.trans hF_3 (Fr.mU (by decide))) (Fk.trans hK_4 (Fk.wr (by decide))) hQ_5 (fun j hj => (congrFun (mU_ne (f := s1.1) (p := 53) (k := 32) (q := 78) (x := (nI k)) (by decide)) j).trans (hL_2 j hj)) (fun e => absurd e (by omega)) (fun e => ⟨k, ⟨by omega, (hst.2.2.2.1 (by omega)).1, (hst.2.2.2.1 (by omega)).2⟩, mU_at (f := s1.1) (p := 53) (k := 32)⟩); rw [show am - (g + (am - g)) = am - g - (am - g) by omega] at hh; exact hh)
    · replace h1 : ¬ (am - g ≤ lf (sm (cl c)) al (x + g) y k) := fun hh => h1 ((nI_leI (a := (am - g)) (b := (lf (sm (cl c)) al (x + g) y k)) (by omega) (by omega)).mpr hh)
      refine w_blk 3 (pc' := 55) (ls' := [some (.ref 53), some (.int (nI am)), some (.int 1), some (.int (nI (am - g))), some (.int (nI k)), some (.int (nI k)), l6]) (sk' := [.int (nI k), .ref 78]) (st' := s0) (fun _ h => h) ?_
      refine w_iald rfl rfl (vp_in_nI (n := k) (N := 8) (by omega) (by decide)) ?_
      rw [nI_clamp (show k < 2 ^ 31 by omega)]
      rw [hL k (by omega)]
      refine w_blk 2 (pc' := 62) (ls' := [some (.ref 53), some (.int (nI am)), some (.int 1), some (.int (nI (am - g))), some (.int (nI k)), some (.int (nI k)), some (.int (nI (lf (sm (cl c)) al (x + g) y k)))]) (sk' := []) (st' := s0) (fun _ h => h) ?_
      have hst := strA hmono hg hgx hpre (v := lf (sm (cl c)) al (x + g) y k) (by omega)
      refine w_blk 4 (pc' := 69) (ls' := [some (.ref 53), some (.int (nI am)), some (.int 1), some (.int (nI (am - g))), some (.int (nI k)), some (.int (nI k)), some (.int (nI (lf (sm (cl c)) al (x + g) y k)))]) (sk' := [.int (nI k), .ref 78, .int (nI k), .ref 78]) (st' := s0) (fun _ h => h) ?_
      refine w_iald rfl rfl (vp_in_nI (n := k) (N := 8) (by omega) (by decide)) ?_
      rw [nI_clamp (show k < 2 ^ 31 by omega)]
      rw [hL k (by omega)]
      refine w_blk 2 (pc' := 73) (ls' := [some (.ref 53), some (.int (nI am)), some (.int 1), some (.int (nI (am - g))), some (.int (nI k)), some (.int (nI k)), some (.int (nI (lf (sm (cl c)) al (x + g) y k)))]) (sk' := [.int ((nI (lf (sm (cl c)) al (x + g) y k)) - (nI (lf (sm (cl c)) al (x + g) y k))), .int (nI k), .ref 78]) (st' := s0) (fun _ h => h) ?_
      rw [show ((nI (lf (sm (cl c)) al (x + g) y k)) - (nI (lf (sm (cl c)) al (x + g) y k))) = nI ((lf (sm (cl c)) al (x + g) y k) - (lf (sm (cl c)) al (x + g) y k)) from pk_sub (a := lf (sm (cl c)) al (x + g) y k) (b := lf (sm (cl c)) al (x + g) y k) (by omega)]
      refine w_iast rfl rfl (vp_in_nI (n := k) (N := 8) (by omega) (by decide)) ?_
      rw [nI_clamp (show k < 2 ^ 31 by omega)]
      have hL_8 : ∀ j, j < n 2 → (((mU s0.1 78 k (nI ((lf (sm (cl c)) al (x + g) y k) - (lf (sm (cl c)) al (x + g) y k)))), s0.2)).1 78 j = nI (lf (sm (cl c)) al (x + (g + (lf (sm (cl c)) al (x + g) y k))) y j) := (fun j hj => if ej : j = k then (by rw [hst.2.2.1 j, if_pos ej, ej]; exact mU_at (f := s0.1) (p := 78) (k := k)) else (by rw [hst.2.2.1 j, if_neg ej]; exact (mU_row ej).trans (hL j hj)))
      have hF_9 : Fr [53, 78] st ((mU s0.1 78 k (nI ((lf (sm (cl c)) al (x + g) y k) - (lf (sm (cl c)) al (x + g) y k)))), s0.2) := (Fr.trans hf (Fr.mU (by decide)))
      have hK_10 : Fk 53 [32] st ((mU s0.1 78 k (nI ((lf (sm (cl c)) al (x + g) y k) - (lf (sm (cl c)) al (x + g) y k)))), s0.2) := (Fk.trans hk0 (Fk.wn (by decide)))
      have hQ_11 : (((mU s0.1 78 k (nI ((lf (sm (cl c)) al (x + g) y k) - (lf (sm (cl c)) al (x + g) y k)))), s0.2)).2 = st.2 := h20
      have hY_12 : (((mU s0.1 78 k (nI ((lf (sm (cl c)) al (x + g) y k) - (lf (sm (cl c)) al (x + g) y k)))), s0.2)).1 53 32 = s0.1 53 32 := rfl
      generalize ((mU s0.1 78 k (nI ((lf (sm (cl c)) al (x + g) y k) - (lf (sm (cl c)) al (x + g) y k)))), s0.2) = s7 at hL_8 hF_9 hK_10 hQ_11 hY_12 ⊢
      refine w_blk 3 (pc' := 78) (ls' := [some (.ref 53), some (.int (nI am)), some (.int 1), some (.int (nI (am - g))), some (.int (nI k)), some (.int (nI k)), some (.int (nI (lf (sm (cl c)) al (x + g) y k)))]) (sk' := [.int ((nI (am - g)) - (nI (lf (sm (cl c)) al (x + g) y k)))]) (st' := s7) (fun _ h => h) ?_
      rw [show ((nI (am - g)) - (nI (lf (sm (cl c)) al (x + g) y k))) = nI ((am - g) - (lf (sm (cl c)) al (x + g) y k)) from pk_sub (a := am - g) (b := lf (sm (cl c)) al (x + g) y k) (by omega)]
      refine w_blk 3 (pc' := 82) (ls' := [some (.ref 53), some (.int (nI am)), some (.int 1), some (.int (nI ((am - g) - (lf (sm (cl c)) al (x + g) y k)))), some (.int (nI k)), some (.int (nI k)), some (.int (nI (lf (sm (cl c)) al (x + g) y k)))]) (sk' := [.int (nI (lf (sm (cl c)) al (x + g) y k)), .ref 53]) (st' := s7) (fun _ h => h) ?_
      refine w_if_le rfl (fun h9 => ?_) (fun h9 => ?_)
      · replace h9 : lf (sm (cl c)) al (x + g) y k ≤ 0 := (nI_leI (a := (lf (sm (cl c)) al (x + g) y k)) (b := 0) (by omega) (by omega)).mp h9
        refine w_blk 4 (pc' := 100) (ls' := [some (.ref 53), some (.int (nI am)), some (.int 1), some (.int (nI ((am - g) - (lf (sm (cl c)) al (x + g) y k)))), some (.int ((nI k) + 1)), some (.int (nI k)), some (.int (nI (lf (sm (cl c)) al (x + g) y k)))]) (sk' := []) (st' := ((mU s7.1 53 32 (s7.1 53 32)), s7.2)) (fun _ h => h) ?_
        rw [show ((nI k) + 1) = nI (k + 1) from nI_add k 1]
        refine w_blk 1 (pc' := 5) (ls' := [some (.ref 53), some (.int (nI am)), some (.int 1), some (.int (nI ((am - g) - (lf (sm (cl c)) al (x + g) y k)))), some (.int (nI (k + 1))), some (.int (nI k)), some (.int (nI (lf (sm (cl c)) al (x + g) y k)))]) (sk' := []) (st' := ((mU s7.1 53 32 (s7.1 53 32)), s7.2)) (fun _ h => h) ?_
        exact (by have hh := ih (k + 1) (g + (lf (sm (cl c)) al (x + g) y k)) ((mU s7.1 53 32 (s7.1 53 32)), s7.2) (some (.int (nI k))) (some (.int (nI (lf (sm (cl c)) al (x + g) y k)))) (by omega) hst.2.2.2.2 hst.1 hst.2.1 (Fr.trans hF_9 (Fr.mU (by decide))) (Fk.trans hK_10 (Fk.wr (by decide))) hQ_11 (fun j hj => (congrFun (mU_ne (f := s7.1) (p := 53) (k := 32) (q := 78) (x := (s7.1 53 32)) (by decide)) j).trans (hL_8 j hj)) (fun e => (mU_at (f := s7.1) (p := 53) (k := 32)).trans (hY_12.trans (hy0 (by omega)))) (fun e => by obtain ⟨z, hz, he⟩ := hy1 (by omega); exact ⟨z, by rw [show x + (g + (lf (sm (cl c)) al (x + g) y k)) - 1 = x + g - 1 by omega]; exact hz, (mU_at (f := s7.1) (p := 53) (k := 32)).trans (hY_12.trans he)⟩); rw [show am - (g + (lf (sm (cl c)) al (x + g) y k)) = am - g - (lf (sm (cl c)) al (x + g) y k) by omega] at hh; exact hh)
      · replace h9 : ¬ (lf (sm (cl c)) al (x + g) y k ≤ 0) := fun hh => h9 ((nI_leI (a := (lf (sm (cl c)) al (x + g) y k)) (b := 0) (by omega) (by omega)).mpr hh)
        refine w_blk 4 (pc' := 100) (ls' := [some (.ref 53), some (.int (nI am)), some (.int 1), some (.int (nI ((am - g) - (lf (sm (cl c)) al (x + g) y k)))), some (.int ((nI k) + 1)), some (.int (nI k)), some (.int (nI (lf (sm (cl c)) al (x + g) y k)))]) (sk' := []) (st' := ((mU s7.1 53 32 (nI k)), s7.2)) (fun _ h => h) ?_
        rw [show ((nI k) + 1) = nI (k + 1) from nI_add k 1]
        refine w_blk 1 (pc' := 5) (ls' := [some (.ref 53), some (.int (nI am)), some (.int 1), some (.int (nI ((am - g) - (lf (sm (cl c)) al (x + g) y k)))), some (.int (nI (k + 1))), some (.int (nI k)), some (.int (nI (lf (sm (cl c)) al (x + g) y k)))]) (sk' := []) (st' := ((mU s7.1 53 32 (nI k)), s7.2)) (fun _ h => h) ?_
        exact (by have hh := ih (k + 1) (g + (lf (sm (cl c)) al (x + g) y k)) ((mU s7.1 53 32 (nI k)), s7.2) (some (.int (nI k))) (some (.int (nI (lf (sm (cl c)) al (x + g) y k)))) (by omega) hst.2.2.2.2 hst.1 hst.2.1 (Fr.trans hF_9 (Fr.mU (by decide))) (Fk.trans hK_10 (Fk.wr (by decide))) hQ_11 (fun j hj => (congrFun (mU_ne (f := s7.1) (p := 53) (k := 32) (q := 78) (x := (nI k)) (by decide)) j).trans (hL_8 j hj)) (fun e => absurd e (by omega)) (fun e => ⟨k, ⟨by omega, (hst.2.2.2.1 (by omega)).1, (hst.2.2.2.1 (by omega)).2⟩, mU_at (f := s7.1) (p := 53) (k := 32)⟩); rw [show am - (g + (lf (sm (cl c)) al (x + g) y k)) = am - g - (lf (sm (cl c)) al (x + g) y k) by omega] at hh; exact hh)
set_option maxRecDepth 20000 in
/-- stroke -/
theorem m_strokeB (d : Nat) (n : Nat → Nat) (c : Nat → Nat → Nat) (al x y am : Nat) (st : mSt) (hR : MR st n c) (hB : CB n c) (hal : sm (cl c) (n 2) = al) (hal2 : al ≤ 7128) (hxy : x + y ≤ al) (ham : am ≤ 99) (hL : ∀ k, k < n 2 → st.1 78 k = nI (lf (sm (cl c)) al x y k)) : ∃ (s : mSt), mMC mT (d + 1) 171 [.ref 53, .int (nI am), .int (-1)] st (some (.int (nI (min am (al - x - y))))) s ∧ (∀ k, k < n 2 → s.1 78 k = nI (lf (sm (cl c)) al x (y + (min am (al - x - y))) k)) ∧ (min am (al - x - y) = 0 → s.1 53 32 = st.1 53 32) ∧ (0 < min am (al - x - y) → ∃ z, YO c (n 2) (al - (y + (min am (al - x - y)))) z ∧ s.1 53 32 = nI z) ∧ Fr [53, 78] st s ∧ Fk 53 [32] st s ∧ s.2 = st.2 := by
  suffices H : ∀ Q : Option Value → mSt → Prop, (∀ (s : mSt), ((∀ k, k < n 2 → s.1 78 k = nI (lf (sm (cl c)) al x (y + (min am (al - x - y))) k)) ∧ (min am (al - x - y) = 0 → s.1 53 32 = st.1 53 32) ∧ (0 < min am (al - x - y) → ∃ z, YO c (n 2) (al - (y + (min am (al - x - y)))) z ∧ s.1 53 32 = nI z) ∧ Fr [53, 78] st s ∧ Fk 53 [32] st s ∧ s.2 = st.2) → Q (some (.int (nI (min am (al - x - y))))) s) → mW (mMC mT (d + 0)) (0, fun _ => 0) (mAtL P_X10_stroke) (some .int) Q 0 [some (.ref 53), some (.int (nI am)), some (.int (-1)), none, none, none, none] [] st by
    obtain ⟨_, _, ⟨s, rfl, rfl, hp⟩, hw⟩ := mW_ex (H (fun vv tt => ∃ (s : mSt),  vv = some (.int (nI (min am (al - x - y)))) ∧ s = tt ∧ (∀ k, k < n 2 → s.1 78 k = nI (lf (sm (cl c)) al x (y + (min am (al - x - y))) k)) ∧ (min am (al - x - y) = 0 → s.1 53 32 = st.1 53 32) ∧ (0 < min am (al - x - y) → ∃ z, YO c (n 2) (al - (y + (min am (al - x - y)))) z ∧ s.1 53 32 = nI z) ∧ Fr [53, 78] st s ∧ Fk 53 [32] st s ∧ s.2 = st.2) (fun s hp => ⟨s, rfl, rfl, hp⟩))
    exact ⟨s, mI_X10_stroke (d := d + 0) (Nat.le_of_ble_eq_true rfl) hw, hp⟩
  intro Q hq
  obtain ⟨hc0, hc1, hc2, hcd, hcs, hcy⟩ := id hB
  have hmono : ∀ i j, i ≤ j → sm (cl c) i ≤ sm (cl c) j := fun i j h => sm_mono j h
  refine w_blk 4 (pc' := 5) (ls' := [some (.ref 53), some (.int (nI am)), some (.int (-1)), some (.int (nI am)), some (.int 0), none, none]) (sk' := []) (st' := st) (fun _ h => h) ?_
  suffices key : ∀ (m k g : Nat) (s0 : mSt) (l5 l6 : Option Value), k + m = n 2 → g ≤ am → x + (y + g) ≤ al → (g = am ∨ al - (y + g) ≤ max (sm (cl c) (n 2 - k)) x) → Fr [53, 78] st s0 → Fk 53 [32] st s0 → s0.2 = st.2 → (∀ j, j < n 2 → s0.1 78 j = nI (lf (sm (cl c)) al x (y + g) j)) → (g = 0 → s0.1 53 32 = st.1 53 32) → (0 < g → ∃ z, YO c (n 2) (al - (y + g)) z ∧ s0.1 53 32 = nI z) → mW (mMC mT (d + 0)) (0, fun _ => 0) (mAtL P_X10_stroke) (some .int) Q 5 [some (.ref 53), some (.int (nI am)), some (.int (-1)), some (.int (nI (am - g))), some (.int (nI k)), l5, l6] [] s0 from key (n 2) 0 0 st none none (by omega) (by omega) (by omega) (Or.inr (by rw [Nat.sub_zero, hal]; omega)) Fr.rf Fk.rf rfl hL (fun _ => rfl) (fun h => absurd h (by omega))
  intro m
  induction m with
  | zero =>
    intro k g s0 l5 l6 hk hg hgx hpre hf hk0 h20 hL hy0 hy1
    have hR0 : MR s0 n c := MR_fr hf (by decide) hR
    obtain rfl : n 2 = k := by omega
    refine w_blk 4 (pc' := 12) (ls' := [some (.ref 53), some (.int (nI am)), some (.int (-1)), some (.int (nI (am - g))), some (.int (nI (n 2))), l5, l6]) (sk' := [.int 0, .ref 62, .int (nI (n 2))]) (st' := s0) (fun _ h => h) ?_
    refine w_iald rfl rfl (vp_in_nI (n := 0) (N := 2) (by decide) (by decide)) ?_
    rw [show Int32.toNatClampNeg (0 : Int32) = 0 from rfl]
    rw [hR0.2.2.1]
    refine w_cmp_ge rfl (fun _ => ?_) (fun hno => absurd (Int32.le_refl _) hno)
    refine w_blk 3 (pc' := 106) (ls' := [some (.ref 53), some (.int (nI am)), some (.int (-1)), some (.int (nI (am - g))), some (.int (nI (n 2))), l5, l6]) (sk' := [.int ((nI am) - (nI (am - g)))]) (st' := s0) (fun _ h => h) ?_
    rw [show ((nI am) - (nI (am - g))) = nI (am - (am - g)) from pk_sub (a := am) (b := am - g) (by omega)]
    have hz0 : sm (cl c) (n 2 - n 2) = 0 := by rw [Nat.sub_self]; rfl
    have hgD : min am (al - x - y) = g := by omega
    exact w_iret rfl rfl rfl (by have hh := hq s0; rw [hgD] at hh; rw [show am - (am - g) = g by omega]; exact hh ⟨hL, hy0, hy1, hf, hk0, h20⟩)
  | succ m ih =>
    intro k g s0 l5 l6 hk hg hgx hpre hf hk0 h20 hL hy0 hy1
    have hR0 : MR s0 n c := MR_fr hf (by decide) hR
    have hk2 : k < n 2 := by omega
    have hlb : lf (sm (cl c)) al x (y + g) (n 2 - 1 - k) ≤ al := by unfold lf; omega
    refine w_blk 4 (pc' := 12) (ls' := [some (.ref 53), some (.int (nI am)), some (.int (-1)), some (.int (nI (am - g))), some (.int (nI k)), l5, l6]) (sk' := [.int 0, .ref 62, .int (nI k)]) (st' := s0) (fun _ h => h) ?_
    refine w_iald rfl rfl (vp_in_nI (n := 0) (N := 2) (by decide) (by decide)) ?_
    rw [show Int32.toNatClampNeg (0 : Int32) = 0 from rfl]
    rw [hR0.2.2.1]
    refine w_cmp_ge rfl (fun hno => absurd hno (nI_ge hk2 (by omega))) (fun _ => ?_)
    refine w_blk 1 (pc' := 17) (ls' := [some (.ref 53), some (.int (nI am)), some (.int (-1)), some (.int (nI (am - g))), some (.int (nI k)), l5, l6]) (sk' := [.int (-1)]) (st' := s0) (fun _ h => h) ?_
    refine w_if_le rfl (fun _ => ?_) (fun hno => absurd (by decide) hno)
    refine w_blk 3 (pc' := 30) (ls' := [some (.ref 53), some (.int (nI am)), some (.int (-1)), some (.int (nI (am - g))), some (.int (nI k)), l5, l6]) (sk' := [.int 0, .ref 62]) (st' := s0) (fun _ h => h) ?_
    refine w_iald rfl rfl (vp_in_nI (n := 0) (N := 2) (by decide) (by decide)) ?_
    rw [show Int32.toNatClampNeg (0 : Int32) = 0 from rfl]
    rw [hR0.2.2.1]
    refine w_blk 2 (pc' := 33) (ls' := [some (.ref 53), some (.int (nI am)), some (.int (-1)), some (.int (nI (am - g))), some (.int (nI k)), l5, l6]) (sk' := [.int ((nI (n 2)) - 1)]) (st' := s0) (fun _ h => h) ?_
    rw [show ((nI (n 2)) - 1) = nI ((n 2) - 1) from pk_sub (a := n 2) (b := 1) (by omega)]
    refine w_blk 2 (pc' := 36) (ls' := [some (.ref 53), some (.int (nI am)), some (.int (-1)), some (.int (nI (am - g))), some (.int (nI k)), l5, l6]) (sk' := [.int ((nI ((n 2) - 1)) - (nI k))]) (st' := s0) (fun _ h => h) ?_
    rw [show ((nI ((n 2) - 1)) - (nI k)) = nI (((n 2) - 1) - k) from pk_sub (a := (n 2) - 1) (b := k) (by omega)]
    refine w_blk 4 (pc' := 44) (ls' := [some (.ref 53), some (.int (nI am)), some (.int (-1)), some (.int (nI (am - g))), some (.int (nI k)), some (.int (nI (((n 2) - 1) - k))), l6]) (sk' := [.int (nI (((n 2) - 1) - k)), .ref 78]) (st' := s0) (fun _ h => h) ?_
    refine w_iald rfl rfl (vp_in_nI (n := (((n 2) - 1) - k)) (N := 8) (by omega) (by decide)) ?_
    rw [nI_clamp (show (((n 2) - 1) - k) < 2 ^ 31 by omega)]
    rw [hL (((n 2) - 1) - k) (by omega)]
    refine w_blk 1 (pc' := 46) (ls' := [some (.ref 53), some (.int (nI am)), some (.int (-1)), some (.int (nI (am - g))), some (.int (nI k)), some (.int (nI (((n 2) - 1) - k))), l6]) (sk' := [.int (nI (am - g)), .int (nI (lf (sm (cl c)) al x (y + g) (((n 2) - 1) - k)))]) (st' := s0) (fun _ h => h) ?_
    refine w_cmp_ge rfl (fun h1 => ?_) (fun h1 => ?_)
    · replace h1 : am - g ≤ lf (sm (cl c)) al x (y + g) (((n 2) - 1) - k) := (nI_leI (a := (am - g)) (b := (lf (sm (cl c)) al x (y + g) (((n 2) - 1) - k))) (by omega) (by omega)).mp h1
      refine w_blk 2 (pc' := 62) (ls' := [some (.ref 53), some (.int (nI am)), some (.int (-1)), some (.int (nI (am - g))), some (.int (nI k)), some (.int (nI (((n 2) - 1) - k))), some (.int (nI (am - g)))]) (sk' := []) (st' := s0) (fun _ h => h) ?_
      have hst := strB hmono (z := n 2 - 1 - k) hg hgx (by rw [show n 2 - 1 - k + 1 = n 2 - k by omega]; exact hpre) (v := am - g) (by omega)
      refine w_blk 4 (pc' := 69) (ls' := [some (.ref 53), some (.int (nI am)), some (.int (-1)), some (.int (nI (am - g))), some (.int (nI k)), some (.int (nI (((n 2) - 1) - k))), some (.int (nI (am - g)))]) (sk' := [.int (nI (((n 2) - 1) - k)), .ref 78, .int (nI (((n 2) - 1) - k)), .ref 78]) (st' := s0) (fun _ h => h) ?_
      refine w_iald rfl rfl (vp_in_nI (n := (((n 2) - 1) - k)) (N := 8) (by omega) (by decide)) ?_
      rw [nI_clamp (show (((n 2) - 1) - k) < 2 ^ 31 by omega)]
      rw [hL (((n 2) - 1) - k) (by omega)]
      refine w_blk 2 (pc' := 73) (ls' := [some (.ref 53), some (.int (nI am)), some (.int (-1)), some (.int (nI (am - g))), some (.int (nI k)), some (.int (nI (((n 2) - 1) - k))), some (.int (nI (am - g)))]) (sk' := [.int ((nI (lf (sm (cl c)) al x (y + g) (((n 2) - 1) - k))) - (nI (am - g))), .int (nI (((n 2) - 1) - k)), .ref 78]) (st' := s0) (fun _ h => h) ?_
      rw [show ((nI (lf (sm (cl c)) al x (y + g) (((n 2) - 1) - k))) - (nI (am - g))) = nI ((lf (sm (cl c)) al x (y + g) (((n 2) - 1) - k)) - (am - g)) from pk_sub (a := lf (sm (cl c)) al x (y + g) (((n 2) - 1) - k)) (b := am - g) (by omega)]
      refine w_iast rfl rfl (vp_in_nI (n := (((n 2) - 1) - k)) (N := 8) (by omega) (by decide)) ?_
      rw [nI_clamp (show (((n 2) - 1) - k) < 2 ^ 31 by omega)]
      have hL_2 : ∀ j, j < n 2 → (((mU s0.1 78 (((n 2) - 1) - k) (nI ((lf (sm (cl c)) al x (y + g) (((n 2) - 1) - k)) - (am - g)))), s0.2)).1 78 j = nI (lf (sm (cl c)) al x (y + (g + (am - g))) j) := (fun j hj => if ej : j = ((n 2) - 1) - k then (by rw [hst.2.2.1 j, if_pos ej, ej]; exact mU_at (f := s0.1) (p := 78) (k := (((n 2) - 1) - k))) else (by rw [hst.2.2.1 j, if_neg ej]; exact (mU_row ej).trans (hL j hj)))
      have hF_3 : Fr [53, 78] st ((mU s0.1 78 (((n 2) - 1) - k) (nI ((lf (sm (cl c)) al x (y + g) (((n 2) - 1) - k)) - (am - g)))), s0.2) := (Fr.trans hf (Fr.mU (by decide)))
      have hK_4 : Fk 53 [32] st ((mU s0.1 78 (((n 2) - 1) - k) (nI ((lf (sm (cl c)) al x (y + g) (((n 2) - 1) - k)) - (am - g)))), s0.2) := (Fk.trans hk0 (Fk.wn (by decide)))
      have hQ_5 : (((mU s0.1 78 (((n 2) - 1) - k) (nI ((lf (sm (cl c)) al x (y + g) (((n 2) - 1) - k)) - (am - g)))), s0.2)).2 = st.2 := h20
      have hY_6 : (((mU s0.1 78 (((n 2) - 1) - k) (nI ((lf (sm (cl c)) al x (y + g) (((n 2) - 1) - k)) - (am - g)))), s0.2)).1 53 32 = s0.1 53 32 := rfl
      generalize ((mU s0.1 78 (((n 2) - 1) - k) (nI ((lf (sm (cl c)) al x (y + g) (((n 2) - 1) - k)) - (am - g)))), s0.2) = s1 at hL_2 hF_3 hK_4 hQ_5 hY_6 ⊢
      refine w_blk 3 (pc' := 78) (ls' := [some (.ref 53), some (.int (nI am)), some (.int (-1)), some (.int (nI (am - g))), some (.int (nI k)), some (.int (nI (((n 2) - 1) - k))), some (.int (nI (am - g)))]) (sk' := [.int ((nI (am - g)) - (nI (am - g)))]) (st' := s1) (fun _ h => h) ?_
      rw [show ((nI (am - g)) - (nI (am - g))) = nI ((am - g) - (am - g)) from pk_sub (a := am - g) (b := am - g) (by omega)]
      refine w_blk 3 (pc' := 82) (ls' := [some (.ref 53), some (.int (nI am)), some (.int (-1)), some (.int (nI ((am - g) - (am - g)))), some (.int (nI k)), some (.int (nI (((n 2) - 1) - k))), some (.int (nI (am - g)))]) (sk' := [.int (nI (am - g)), .ref 53]) (st' := s1) (fun _ h => h) ?_
      refine w_if_le rfl (fun h9 => ?_) (fun h9 => ?_)
      · replace h9 : am - g ≤ 0 := (nI_leI (a := (am - g)) (b := 0) (by omega) (by omega)).mp h9
        refine w_blk 4 (pc' := 100) (ls' := [some (.ref 53), some (.int (nI am)), some (.int (-1)), some (.int (nI ((am - g) - (am - g)))), some (.int ((nI k) + 1)), some (.int (nI (((n 2) - 1) - k))), some (.int (nI (am - g)))]) (sk' := []) (st' := ((mU s1.1 53 32 (s1.1 53 32)), s1.2)) (fun _ h => h) ?_
        rw [show ((nI k) + 1) = nI (k + 1) from nI_add k 1]
        refine w_blk 1 (pc' := 5) (ls' := [some (.ref 53), some (.int (nI am)), some (.int (-1)), some (.int (nI ((am - g) - (am - g)))), some (.int (nI (k + 1))), some (.int (nI (((n 2) - 1) - k))), some (.int (nI (am - g)))]) (sk' := []) (st' := ((mU s1.1 53 32 (s1.1 53 32)), s1.2)) (fun _ h => h) ?_
        exact (by have hh := ih (k + 1) (g + (am - g)) ((mU s1.1 53 32 (s1.1 53 32)), s1.2) (some (.int (nI (((n 2) - 1) - k)))) (some (.int (nI (am - g)))) (by omega) hst.2.2.2.2 hst.1 (by rw [show n 2 - (k + 1) = n 2 - 1 - k by omega]; exact hst.2.1) (Fr.trans hF_3 (Fr.mU (by decide))) (Fk.trans hK_4 (Fk.wr (by decide))) hQ_5 (fun j hj => (congrFun (mU_ne (f := s1.1) (p := 53) (k := 32) (q := 78) (x := (s1.1 53 32)) (by decide)) j).trans (hL_2 j hj)) (fun e => (mU_at (f := s1.1) (p := 53) (k := 32)).trans (hY_6.trans (hy0 (by omega)))) (fun e => by obtain ⟨z, hz, he⟩ := hy1 (by omega); exact ⟨z, by rw [show al - (y + (g + (am - g))) = al - (y + g) by omega]; exact hz, (mU_at (f := s1.1) (p := 53) (k := 32)).trans (hY_6.trans he)⟩); rw [show am - (g + (am - g)) = am - g - (am - g) by omega] at hh; exact hh)
      · replace h9 : ¬ (am - g ≤ 0) := fun hh => h9 ((nI_leI (a := (am - g)) (b := 0) (by omega) (by omega)).mpr hh)
        refine w_blk 4 (pc' := 100) (ls' := [some (.ref 53), some (.int (nI am)), some (.int (-1)), some (.int (nI ((am - g) - (am - g)))), some (.int ((nI k) + 1)), some (.int (nI (((n 2) - 1) - k))), some (.int (nI (am - g)))]) (sk' := []) (st' := ((mU s1.1 53 32 (nI (((n 2) - 1) - k))), s1.2)) (fun _ h => h) ?_
        rw [show ((nI k) + 1) = nI (k + 1) from nI_add k 1]
        refine w_blk 1 (pc' := 5) (ls' := [some (.ref 53), some (.int (nI am)), some (.int (-1)), some (.int (nI ((am - g) - (am - g)))), some (.int (nI (k + 1))), some (.int (nI (((n 2) - 1) - k))), some (.int (nI (am - g)))]) (sk' := []) (st' := ((mU s1.1 53 32 (nI (((n 2) - 1) - k))), s1.2)) (fun _ h => h) ?_
        exact (by have hh := ih (k + 1) (g + (am - g)) ((mU s1.1 53 32 (nI (((n 2) - 1) - k))), s1.2) (some (.int (nI (((n 2) - 1) - k)))) (some (.int (nI (am - g)))) (by omega) hst.2.2.2.2 hst.1 (by rw [show n 2 - (k + 1) = n 2 - 1 - k by omega]; exact hst.2.1) (Fr.trans hF_3 (Fr.mU (by decide))) (Fk.trans hK_4 (Fk.wr (by decide))) hQ_5 (fun j hj => (congrFun (mU_ne (f := s1.1) (p := 53) (k := 32) (q := 78) (x := (nI (((n 2) - 1) - k))) (by decide)) j).trans (hL_2 j hj)) (fun e => absurd e (by omega)) (fun e => ⟨((n 2) - 1) - k, ⟨by omega, (hst.2.2.2.1 (by omega)).1, (hst.2.2.2.1 (by omega)).2⟩, mU_at (f := s1.1) (p := 53) (k := 32)⟩); rw [show am - (g + (am - g)) = am - g - (am - g) by omega] at hh; exact hh)
    · replace h1 : ¬ (am - g ≤ lf (sm (cl c)) al x (y + g) (((n 2) - 1) - k)) := fun hh => h1 ((nI_leI (a := (am - g)) (b := (lf (sm (cl c)) al x (y + g) (((n 2) - 1) - k))) (by omega) (by omega)).mpr hh)
      refine w_blk 3 (pc' := 55) (ls' := [some (.ref 53), some (.int (nI am)), some (.int (-1)), some (.int (nI (am - g))), some (.int (nI k)), some (.int (nI (((n 2) - 1) - k))), l6]) (sk' := [.int (nI (((n 2) - 1) - k)), .ref 78]) (st' := s0) (fun _ h => h) ?_
      refine w_iald rfl rfl (vp_in_nI (n := (((n 2) - 1) - k)) (N := 8) (by omega) (by decide)) ?_
      rw [nI_clamp (show (((n 2) - 1) - k) < 2 ^ 31 by omega)]
      rw [hL (((n 2) - 1) - k) (by omega)]
      refine w_blk 2 (pc' := 62) (ls' := [some (.ref 53), some (.int (nI am)), some (.int (-1)), some (.int (nI (am - g))), some (.int (nI k)), some (.int (nI (((n 2) - 1) - k))), some (.int (nI (lf (sm (cl c)) al x (y + g) (((n 2) - 1) - k))))]) (sk' := []) (st' := s0) (fun _ h => h) ?_
      have hst := strB hmono (z := n 2 - 1 - k) hg hgx (by rw [show n 2 - 1 - k + 1 = n 2 - k by omega]; exact hpre) (v := lf (sm (cl c)) al x (y + g) (((n 2) - 1) - k)) (by omega)
      refine w_blk 4 (pc' := 69) (ls' := [some (.ref 53), some (.int (nI am)), some (.int (-1)), some (.int (nI (am - g))), some (.int (nI k)), some (.int (nI (((n 2) - 1) - k))), some (.int (nI (lf (sm (cl c)) al x (y + g) (((n 2) - 1) - k))))]) (sk' := [.int (nI (((n 2) - 1) - k)), .ref 78, .int (nI (((n 2) - 1) - k)), .ref 78]) (st' := s0) (fun _ h => h) ?_
      refine w_iald rfl rfl (vp_in_nI (n := (((n 2) - 1) - k)) (N := 8) (by omega) (by decide)) ?_
      rw [nI_clamp (show (((n 2) - 1) - k) < 2 ^ 31 by omega)]
      rw [hL (((n 2) - 1) - k) (by omega)]
      refine w_blk 2 (pc' := 73) (ls' := [some (.ref 53), some (.int (nI am)), some (.int (-1)), some (.int (nI (am - g))), some (.int (nI k)), some (.int (nI (((n 2) - 1) - k))), some (.int (nI (lf (sm (cl c)) al x (y + g) (((n 2) - 1) - k))))]) (sk' := [.int ((nI (lf (sm (cl c)) al x (y + g) (((n 2) - 1) - k))) - (nI (lf (sm (cl c)) al x (y + g) (((n 2) - 1) - k)))), .int (nI (((n 2) - 1) - k)), .ref 78]) (st' := s0) (fun _ h => h) ?_
      rw [show ((nI (lf (sm (cl c)) al x (y + g) (((n 2) - 1) - k))) - (nI (lf (sm (cl c)) al x (y + g) (((n 2) - 1) - k)))) = nI ((lf (sm (cl c)) al x (y + g) (((n 2) - 1) - k)) - (lf (sm (cl c)) al x (y + g) (((n 2) - 1) - k))) from pk_sub (a := lf (sm (cl c)) al x (y + g) (((n 2) - 1) - k)) (b := lf (sm (cl c)) al x (y + g) (((n 2) - 1) - k)) (by omega)]
      refine w_iast rfl rfl (vp_in_nI (n := (((n 2) - 1) - k)) (N := 8) (by omega) (by decide)) ?_
      rw [nI_clamp (show (((n 2) - 1) - k) < 2 ^ 31 by omega)]
      have hL_8 : ∀ j, j < n 2 → (((mU s0.1 78 (((n 2) - 1) - k) (nI ((lf (sm (cl c)) al x (y + g) (((n 2) - 1) - k)) - (lf (sm (cl c)) al x (y + g) (((n 2) - 1) - k))))), s0.2)).1 78 j = nI (lf (sm (cl c)) al x (y + (g + (lf (sm (cl c)) al x (y + g) (((n 2) - 1) - k)))) j) := (fun j hj => if ej : j = ((n 2) - 1) - k then (by rw [hst.2.2.1 j, if_pos ej, ej]; exact mU_at (f := s0.1) (p := 78) (k := (((n 2) - 1) - k))) else (by rw [hst.2.2.1 j, if_neg ej]; exact (mU_row ej).trans (hL j hj)))
      have hF_9 : Fr [53, 78] st ((mU s0.1 78 (((n 2) - 1) - k) (nI ((lf (sm (cl c)) al x (y + g) (((n 2) - 1) - k)) - (lf (sm (cl c)) al x (y + g) (((n 2) - 1) - k))))), s0.2) := (Fr.trans hf (Fr.mU (by decide)))
      have hK_10 : Fk 53 [32] st ((mU s0.1 78 (((n 2) - 1) - k) (nI ((lf (sm (cl c)) al x (y + g) (((n 2) - 1) - k)) - (lf (sm (cl c)) al x (y + g) (((n 2) - 1) - k))))), s0.2) := (Fk.trans hk0 (Fk.wn (by decide)))
      have hQ_11 : (((mU s0.1 78 (((n 2) - 1) - k) (nI ((lf (sm (cl c)) al x (y + g) (((n 2) - 1) - k)) - (lf (sm (cl c)) al x (y + g) (((n 2) - 1) - k))))), s0.2)).2 = st.2 := h20
      have hY_12 : (((mU s0.1 78 (((n 2) - 1) - k) (nI ((lf (sm (cl c)) al x (y + g) (((n 2) - 1) - k)) - (lf (sm (cl c)) al x (y + g) (((n 2) - 1) - k))))), s0.2)).1 53 32 = s0.1 53 32 := rfl
      generalize ((mU s0.1 78 (((n 2) - 1) - k) (nI ((lf (sm (cl c)) al x (y + g) (((n 2) - 1) - k)) - (lf (sm (cl c)) al x (y + g) (((n 2) - 1) - k))))), s0.2) = s7 at hL_8 hF_9 hK_10 hQ_11 hY_12 ⊢
      refine w_blk 3 (pc' := 78) (ls' := [some (.ref 53), some (.int (nI am)), some (.int (-1)), some (.int (nI (am - g))), some (.int (nI k)), some (.int (nI (((n 2) - 1) - k))), some (.int (nI (lf (sm (cl c)) al x (y + g) (((n 2) - 1) - k))))]) (sk' := [.int ((nI (am - g)) - (nI (lf (sm (cl c)) al x (y + g) (((n 2) - 1) - k))))]) (st' := s7) (fun _ h => h) ?_
      rw [show ((nI (am - g)) - (nI (lf (sm (cl c)) al x (y + g) (((n 2) - 1) - k)))) = nI ((am - g) - (lf (sm (cl c)) al x (y + g) (((n 2) - 1) - k))) from pk_sub (a := am - g) (b := lf (sm (cl c)) al x (y + g) (((n 2) - 1) - k)) (by omega)]
      refine w_blk 3 (pc' := 82) (ls' := [some (.ref 53), some (.int (nI am)), some (.int (-1)), some (.int (nI ((am - g) - (lf (sm (cl c)) al x (y + g) (((n 2) - 1) - k))))), some (.int (nI k)), some (.int (nI (((n 2) - 1) - k))), some (.int (nI (lf (sm (cl c)) al x (y + g) (((n 2) - 1) - k))))]) (sk' := [.int (nI (lf (sm (cl c)) al x (y + g) (((n 2) - 1) - k))), .ref 53]) (st' := s7) (fun _ h => h) ?_
      refine w_if_le rfl (fun h9 => ?_) (fun h9 => ?_)
      · replace h9 : lf (sm (cl c)) al x (y + g) (((n 2) - 1) - k) ≤ 0 := (nI_leI (a := (lf (sm (cl c)) al x (y + g) (((n 2) - 1) - k))) (b := 0) (by omega) (by omega)).mp h9
        refine w_blk 4 (pc' := 100) (ls' := [some (.ref 53), some (.int (nI am)), some (.int (-1)), some (.int (nI ((am - g) - (lf (sm (cl c)) al x (y + g) (((n 2) - 1) - k))))), some (.int ((nI k) + 1)), some (.int (nI (((n 2) - 1) - k))), some (.int (nI (lf (sm (cl c)) al x (y + g) (((n 2) - 1) - k))))]) (sk' := []) (st' := ((mU s7.1 53 32 (s7.1 53 32)), s7.2)) (fun _ h => h) ?_
        rw [show ((nI k) + 1) = nI (k + 1) from nI_add k 1]
        refine w_blk 1 (pc' := 5) (ls' := [some (.ref 53), some (.int (nI am)), some (.int (-1)), some (.int (nI ((am - g) - (lf (sm (cl c)) al x (y + g) (((n 2) - 1) - k))))), some (.int (nI (k + 1))), some (.int (nI (((n 2) - 1) - k))), some (.int (nI (lf (sm (cl c)) al x (y + g) (((n 2) - 1) - k))))]) (sk' := []) (st' := ((mU s7.1 53 32 (s7.1 53 32)), s7.2)) (fun _ h => h) ?_
        exact (by have hh := ih (k + 1) (g + (lf (sm (cl c)) al x (y + g) (((n 2) - 1) - k))) ((mU s7.1 53 32 (s7.1 53 32)), s7.2) (some (.int (nI (((n 2) - 1) - k)))) (some (.int (nI (lf (sm (cl c)) al x (y + g) (((n 2) - 1) - k))))) (by omega) hst.2.2.2.2 hst.1 (by rw [show n 2 - (k + 1) = n 2 - 1 - k by omega]; exact hst.2.1) (Fr.trans hF_9 (Fr.mU (by decide))) (Fk.trans hK_10 (Fk.wr (by decide))) hQ_11 (fun j hj => (congrFun (mU_ne (f := s7.1) (p := 53) (k := 32) (q := 78) (x := (s7.1 53 32)) (by decide)) j).trans (hL_8 j hj)) (fun e => (mU_at (f := s7.1) (p := 53) (k := 32)).trans (hY_12.trans (hy0 (by omega)))) (fun e => by obtain ⟨z, hz, he⟩ := hy1 (by omega); exact ⟨z, by rw [show al - (y + (g + (lf (sm (cl c)) al x (y + g) (((n 2) - 1) - k)))) = al - (y + g) by omega]; exact hz, (mU_at (f := s7.1) (p := 53) (k := 32)).trans (hY_12.trans he)⟩); rw [show am - (g + (lf (sm (cl c)) al x (y + g) (((n 2) - 1) - k))) = am - g - (lf (sm (cl c)) al x (y + g) (((n 2) - 1) - k)) by omega] at hh; exact hh)
      · replace h9 : ¬ (lf (sm (cl c)) al x (y + g) (((n 2) - 1) - k) ≤ 0) := fun hh => h9 ((nI_leI (a := (lf (sm (cl c)) al x (y + g) (((n 2) - 1) - k))) (b := 0) (by omega) (by omega)).mpr hh)
        refine w_blk 4 (pc' := 100) (ls' := [some (.ref 53), some (.int (nI am)), some (.int (-1)), some (.int (nI ((am - g) - (lf (sm (cl c)) al x (y + g) (((n 2) - 1) - k))))), some (.int ((nI k) + 1)), some (.int (nI (((n 2) - 1) - k))), some (.int (nI (lf (sm (cl c)) al x (y + g) (((n 2) - 1) - k))))]) (sk' := []) (st' := ((mU s7.1 53 32 (nI (((n 2) - 1) - k))), s7.2)) (fun _ h => h) ?_
        rw [show ((nI k) + 1) = nI (k + 1) from nI_add k 1]
        refine w_blk 1 (pc' := 5) (ls' := [some (.ref 53), some (.int (nI am)), some (.int (-1)), some (.int (nI ((am - g) - (lf (sm (cl c)) al x (y + g) (((n 2) - 1) - k))))), some (.int (nI (k + 1))), some (.int (nI (((n 2) - 1) - k))), some (.int (nI (lf (sm (cl c)) al x (y + g) (((n 2) - 1) - k))))]) (sk' := []) (st' := ((mU s7.1 53 32 (nI (((n 2) - 1) - k))), s7.2)) (fun _ h => h) ?_
        exact (by have hh := ih (k + 1) (g + (lf (sm (cl c)) al x (y + g) (((n 2) - 1) - k))) ((mU s7.1 53 32 (nI (((n 2) - 1) - k))), s7.2) (some (.int (nI (((n 2) - 1) - k)))) (some (.int (nI (lf (sm (cl c)) al x (y + g) (((n 2) - 1) - k))))) (by omega) hst.2.2.2.2 hst.1 (by rw [show n 2 - (k + 1) = n 2 - 1 - k by omega]; exact hst.2.1) (Fr.trans hF_9 (Fr.mU (by decide))) (Fk.trans hK_10 (Fk.wr (by decide))) hQ_11 (fun j hj => (congrFun (mU_ne (f := s7.1) (p := 53) (k := 32) (q := 78) (x := (nI (((n 2) - 1) - k))) (by decide)) j).trans (hL_8 j hj)) (fun e => absurd e (by omega)) (fun e => ⟨((n 2) - 1) - k, ⟨by omega, (hst.2.2.2.1 (by omega)).1, (hst.2.2.2.1 (by omega)).2⟩, mU_at (f := s7.1) (p := 53) (k := 32)⟩); rw [show am - (g + (lf (sm (cl c)) al x (y + g) (((n 2) - 1) - k))) = am - g - (lf (sm (cl c)) al x (y + g) (((n 2) - 1) - k)) by omega] at hh; exact hh)
set_option maxRecDepth 20000 in
/-- allLeft() -/
theorem m_allLeft (d : Nat) (n : Nat → Nat) (c : Nat → Nat → Nat) (al x y : Nat) (st : mSt) (hR : MR st n c) (hB : CB n c) (hal : sm (cl c) (n 2) = al) (hxy : x + y ≤ al) (hL : ∀ k, k < n 2 → st.1 78 k = nI (lf (sm (cl c)) al x y k)) : mMC mT (d + 1) 172 [.ref 53] st (some (.int (nI (al - x - y)))) st := by
  refine mI_X10_allLeft (d := d + 0) (Nat.le_of_ble_eq_true rfl) (fun Q hq => ?_)
  show mW (mMC mT (d + 0)) (0, fun _ => 0) (mAtL P_X10_allLeft) (some .int) Q 0 [some (.ref 53), none, none] [] st
  obtain ⟨hc0, hc1, hc2, hcd, hcs, hcy⟩ := id hB
  have hmono : ∀ i j, i ≤ j → sm (cl c) i ≤ sm (cl c) j := fun i j h => sm_mono j h
  refine w_blk 4 (pc' := 4) (ls' := [some (.ref 53), some (.int 0), some (.int 0)]) (sk' := []) (st' := st) (fun _ h => h) ?_
  have key : ∀ (m k : Nat), k + m = n 2 → mW (mMC mT (d + 0)) (0, fun _ => 0) (mAtL P_X10_allLeft) (some .int) Q 4 [some (.ref 53), some (.int (nI (sm (lf (sm (cl c)) al x y) k))), some (.int (nI k))] [] st := by
    intro m
    induction m with
    | zero =>
      intro k hk
      obtain rfl : n 2 = k := by omega
      refine w_blk 4 (pc' := 10) (ls' := [some (.ref 53), some (.int (nI (sm (lf (sm (cl c)) al x y) (n 2)))), some (.int (nI (n 2)))]) (sk' := [.int 0, .ref 62, .int (nI (n 2))]) (st' := st) (fun _ h => h) ?_
      refine w_iald rfl rfl (vp_in_nI (n := 0) (N := 2) (by decide) (by decide)) ?_
      rw [show Int32.toNatClampNeg (0 : Int32) = 0 from rfl]
      rw [hR.2.2.1]
      refine w_cmp_ge rfl (fun _ => ?_) (fun hno => absurd (Int32.le_refl _) hno)
      refine w_blk 1 (pc' := 30) (ls' := [some (.ref 53), some (.int (nI (sm (lf (sm (cl c)) al x y) (n 2)))), some (.int (nI (n 2)))]) (sk' := [.int (nI (sm (lf (sm (cl c)) al x y) (n 2)))]) (st' := st) (fun _ h => h) ?_
      rw [show sm (lf (sm (cl c)) al x y) (n 2) = al - x - y from by rw [sm_lf hmono rfl hxy, hal]; omega]
      exact w_iret rfl rfl rfl hq
    | succ m ih =>
      intro k hk
      have hk2 : k < n 2 := by omega
      refine w_blk 4 (pc' := 10) (ls' := [some (.ref 53), some (.int (nI (sm (lf (sm (cl c)) al x y) k))), some (.int (nI k))]) (sk' := [.int 0, .ref 62, .int (nI k)]) (st' := st) (fun _ h => h) ?_
      refine w_iald rfl rfl (vp_in_nI (n := 0) (N := 2) (by decide) (by decide)) ?_
      rw [show Int32.toNatClampNeg (0 : Int32) = 0 from rfl]
      rw [hR.2.2.1]
      refine w_cmp_ge rfl (fun hno => absurd hno (nI_ge hk2 (by omega))) (fun _ => ?_)
      refine w_blk 4 (pc' := 20) (ls' := [some (.ref 53), some (.int (nI (sm (lf (sm (cl c)) al x y) k))), some (.int (nI k))]) (sk' := [.int (nI k), .ref 78, .int (nI (sm (lf (sm (cl c)) al x y) k))]) (st' := st) (fun _ h => h) ?_
      refine w_iald rfl rfl (vp_in_nI (n := k) (N := 8) (by omega) (by decide)) ?_
      rw [nI_clamp (show k < 2 ^ 31 by omega)]
      rw [hL k (by omega)]
      refine w_blk 1 (pc' := 22) (ls' := [some (.ref 53), some (.int (nI (sm (lf (sm (cl c)) al x y) k))), some (.int (nI k))]) (sk' := [.int ((nI (sm (lf (sm (cl c)) al x y) k)) + (nI (lf (sm (cl c)) al x y k)))]) (st' := st) (fun _ h => h) ?_
      rw [show ((nI (sm (lf (sm (cl c)) al x y) k)) + (nI (lf (sm (cl c)) al x y k))) = nI ((sm (lf (sm (cl c)) al x y) k) + (lf (sm (cl c)) al x y k)) from nI_add (sm (lf (sm (cl c)) al x y) k) (lf (sm (cl c)) al x y k)]
      refine w_blk 2 (pc' := 26) (ls' := [some (.ref 53), some (.int (nI ((sm (lf (sm (cl c)) al x y) k) + (lf (sm (cl c)) al x y k)))), some (.int ((nI k) + 1))]) (sk' := []) (st' := st) (fun _ h => h) ?_
      rw [show ((nI k) + 1) = nI (k + 1) from nI_add k 1]
      refine w_blk 1 (pc' := 4) (ls' := [some (.ref 53), some (.int (nI ((sm (lf (sm (cl c)) al x y) k) + (lf (sm (cl c)) al x y k)))), some (.int (nI (k + 1)))]) (sk' := []) (st' := st) (fun _ h => h) ?_
      exact ih (k + 1) (by omega)
  exact key (n 2 - 0) 0 (by omega)
set_option maxRecDepth 20000 in
/-- meeting -/
theorem m_meeting (d : Nat) (n : Nat → Nat) (c : Nat → Nat → Nat) (a p b q wh : Int32) (st : mSt) (hR : MR st n c) (hB : CB n c) : ∃ (r : Int32) (s : mSt), mMC mT (d + 2) 173 [.ref 53, .int a, .int p, .int b, .int q, .int wh] st (some (.int r)) s ∧ MGs n c a p b q wh r ∧ Fr [53, 78] st s ∧ Fk 53 [32] st s ∧ s.2 = st.2 := by
  suffices H : ∀ Q : Option Value → mSt → Prop, (∀ (r : Int32) (s : mSt), (MGs n c a p b q wh r ∧ Fr [53, 78] st s ∧ Fk 53 [32] st s ∧ s.2 = st.2) → Q (some (.int r)) s) → mW (mMC mT (d + 1)) (0, fun _ => 0) (mAtL P_X10_meeting) (some .int) Q 0 [some (.ref 53), some (.int a), some (.int p), some (.int b), some (.int q), some (.int wh), none, none, none, none] [] st by
    obtain ⟨_, _, ⟨r, s, rfl, rfl, hp⟩, hw⟩ := mW_ex (H (fun vv tt => ∃ (r : Int32) (s : mSt),  vv = some (.int r) ∧ s = tt ∧ MGs n c a p b q wh r ∧ Fr [53, 78] st s ∧ Fk 53 [32] st s ∧ s.2 = st.2) (fun r s hp => ⟨r, s, rfl, rfl, hp⟩))
    exact ⟨r, s, mI_X10_meeting (d := d + 1) (Nat.le_of_ble_eq_true rfl) hw, hp⟩
  intro Q hq
  obtain ⟨hc0, hc1, hc2, hcd, hcs, hcy⟩ := id hB
  refine w_blk 3 (pc' := 4) (ls' := [some (.ref 53), some (.int a), some (.int p), some (.int b), some (.int q), some (.int wh), none, none, none, none]) (sk' := [.int 99, .int 1, .int a]) (st' := st) (fun _ h => h) ?_
  refine w_callS (As := [.int a, .int 1, .int 99]) (rest := []) rfl rfl rfl (Nat.le_of_ble_eq_true rfl) (Nat.le_of_ble_eq_true rfl) (m_in (d + 0) a 1 99 st) ?_
  refine w_if_eq rfl (fun h1 => ?_) (fun h1 => ?_)
  · replace h1 := pI_eq0.mp h1
    refine w_blk 1 (pc' := 52) (ls' := [some (.ref 53), some (.int a), some (.int p), some (.int b), some (.int q), some (.int wh), none, none, none, none]) (sk' := [.int (-1)]) (st' := st) (fun _ h => h) ?_
    have hno : ¬ okM a p b q wh := fun hh => by first | exact h1 hh.1 | exact h2 hh.2.1 | exact h3 hh.2.2.1 | exact h4 hh.2.2.2.1 | exact h5 hh.2.2.2.2
    exact w_iret rfl rfl rfl (hq _ st ⟨⟨fun _ => rfl, fun hh => absurd hh hno, fun hh => absurd hh hno⟩, Fr.rf, Fk.rf, rfl⟩)
  · replace h1 := pI_ne.mp h1
    refine w_blk 3 (pc' := 14) (ls' := [some (.ref 53), some (.int a), some (.int p), some (.int b), some (.int q), some (.int wh), none, none, none, none]) (sk' := [.int 99, .int 1, .int p]) (st' := st) (fun _ h => h) ?_
    refine w_callS (As := [.int p, .int 1, .int 99]) (rest := []) rfl rfl rfl (Nat.le_of_ble_eq_true rfl) (Nat.le_of_ble_eq_true rfl) (m_in (d + 0) p 1 99 st) ?_
    refine w_if_eq rfl (fun h2 => ?_) (fun h2 => ?_)
    · replace h2 := pI_eq0.mp h2
      refine w_blk 1 (pc' := 52) (ls' := [some (.ref 53), some (.int a), some (.int p), some (.int b), some (.int q), some (.int wh), none, none, none, none]) (sk' := [.int (-1)]) (st' := st) (fun _ h => h) ?_
      have hno : ¬ okM a p b q wh := fun hh => by first | exact h1 hh.1 | exact h2 hh.2.1 | exact h3 hh.2.2.1 | exact h4 hh.2.2.2.1 | exact h5 hh.2.2.2.2
      exact w_iret rfl rfl rfl (hq _ st ⟨⟨fun _ => rfl, fun hh => absurd hh hno, fun hh => absurd hh hno⟩, Fr.rf, Fk.rf, rfl⟩)
    · replace h2 := pI_ne.mp h2
      refine w_blk 3 (pc' := 24) (ls' := [some (.ref 53), some (.int a), some (.int p), some (.int b), some (.int q), some (.int wh), none, none, none, none]) (sk' := [.int 99, .int 1, .int b]) (st' := st) (fun _ h => h) ?_
      refine w_callS (As := [.int b, .int 1, .int 99]) (rest := []) rfl rfl rfl (Nat.le_of_ble_eq_true rfl) (Nat.le_of_ble_eq_true rfl) (m_in (d + 0) b 1 99 st) ?_
      refine w_if_eq rfl (fun h3 => ?_) (fun h3 => ?_)
      · replace h3 := pI_eq0.mp h3
        refine w_blk 1 (pc' := 52) (ls' := [some (.ref 53), some (.int a), some (.int p), some (.int b), some (.int q), some (.int wh), none, none, none, none]) (sk' := [.int (-1)]) (st' := st) (fun _ h => h) ?_
        have hno : ¬ okM a p b q wh := fun hh => by first | exact h1 hh.1 | exact h2 hh.2.1 | exact h3 hh.2.2.1 | exact h4 hh.2.2.2.1 | exact h5 hh.2.2.2.2
        exact w_iret rfl rfl rfl (hq _ st ⟨⟨fun _ => rfl, fun hh => absurd hh hno, fun hh => absurd hh hno⟩, Fr.rf, Fk.rf, rfl⟩)
      · replace h3 := pI_ne.mp h3
        refine w_blk 3 (pc' := 35) (ls' := [some (.ref 53), some (.int a), some (.int p), some (.int b), some (.int q), some (.int wh), none, none, none, none]) (sk' := [.int 99, .int 1, .int q]) (st' := st) (fun _ h => h) ?_
        refine w_callS (As := [.int q, .int 1, .int 99]) (rest := []) rfl rfl rfl (Nat.le_of_ble_eq_true rfl) (Nat.le_of_ble_eq_true rfl) (m_in (d + 0) q 1 99 st) ?_
        refine w_if_eq rfl (fun h4 => ?_) (fun h4 => ?_)
        · replace h4 := pI_eq0.mp h4
          refine w_blk 1 (pc' := 52) (ls' := [some (.ref 53), some (.int a), some (.int p), some (.int b), some (.int q), some (.int wh), none, none, none, none]) (sk' := [.int (-1)]) (st' := st) (fun _ h => h) ?_
          have hno : ¬ okM a p b q wh := fun hh => by first | exact h1 hh.1 | exact h2 hh.2.1 | exact h3 hh.2.2.1 | exact h4 hh.2.2.2.1 | exact h5 hh.2.2.2.2
          exact w_iret rfl rfl rfl (hq _ st ⟨⟨fun _ => rfl, fun hh => absurd hh hno, fun hh => absurd hh hno⟩, Fr.rf, Fk.rf, rfl⟩)
        · replace h4 := pI_ne.mp h4
          refine w_blk 3 (pc' := 45) (ls' := [some (.ref 53), some (.int a), some (.int p), some (.int b), some (.int q), some (.int wh), none, none, none, none]) (sk' := [.int 2, .int 0, .int wh]) (st' := st) (fun _ h => h) ?_
          refine w_callS (As := [.int wh, .int 0, .int 2]) (rest := []) rfl rfl rfl (Nat.le_of_ble_eq_true rfl) (Nat.le_of_ble_eq_true rfl) (m_in (d + 0) wh 0 2 st) ?_
          refine w_if_ne rfl (fun h5 => ?_) (fun h5 => ?_)
          · replace h5 := pI_ne.mp h5
            obtain ⟨w', -, hw9, rfl⟩ := nI_within (a := 0) (b := 2) h5 (by decide) (by decide)
            have hok : okM a p b q (nI w') := ⟨h1, h2, h3, h4, h5⟩
            obtain ⟨a', ha1, ha9, rfl⟩ := nI_within (a := 1) (b := 99) h1 (by decide) (by decide)
            have eca := nI_clamp (show a' < 2 ^ 31 by omega)
            obtain ⟨p', hp1, hp9, rfl⟩ := nI_within (a := 1) (b := 99) h2 (by decide) (by decide)
            have ecp := nI_clamp (show p' < 2 ^ 31 by omega)
            obtain ⟨b', hb1, hb9, rfl⟩ := nI_within (a := 1) (b := 99) h3 (by decide) (by decide)
            have ecb := nI_clamp (show b' < 2 ^ 31 by omega)
            obtain ⟨q', hq1, hq9, rfl⟩ := nI_within (a := 1) (b := 99) h4 (by decide) (by decide)
            have ecq := nI_clamp (show q' < 2 ^ 31 by omega)
            refine w_blk 3 (pc' := 58) (ls' := [some (.ref 53), some (.int (nI a')), some (.int (nI p')), some (.int (nI b')), some (.int (nI q')), some (.int (nI w')), none, none, none, none]) (sk' := [.int 0, .ref 62]) (st' := st) (fun _ h => h) ?_
            refine w_iald rfl rfl (vp_in_nI (n := 0) (N := 2) (by decide) (by decide)) ?_
            rw [show Int32.toNatClampNeg (0 : Int32) = 0 from rfl]
            rw [hR.2.2.1]
            refine w_if_ne rfl (fun h6 => ?_) (fun h6 => ?_)
            · replace h6 : ¬ (n 2 = 0) := fun hh => h6 ((nI_eq (a := (n 2)) (b := 0) (by omega) (by omega)).mpr hh)
              have hab := all_bd hB (n 2) (Nat.le_refl _)
              obtain ⟨al, hal⟩ : ∃ al, sm (cl c) (n 2) = al := ⟨_, rfl⟩
              rw [hal] at hab
              have hal2 : al ≤ 7128 := by omega
              have hmono : ∀ i j, i ≤ j → sm (cl c) i ≤ sm (cl c) j := fun i j h => sm_mono j h
              have fin : ∀ (t x y : Nat) (s1 : mSt) (nA nB : Int32), x + y = al → MTt al a' p' b' q' t → x = fst_ al a' p' b' q' t → (∃ z, YO c (n 2) (plc al a' p' b' q' t) z ∧ s1.1 53 32 = nI z) → Fr [53, 78] st s1 → Fk 53 [32] st s1 → s1.2 = st.2 → (∀ k, k < n 2 → s1.1 78 k = nI (lf (sm (cl c)) al x y k)) → mW (mMC mT (d + 1)) (0, fun _ => 0) (mAtL P_X10_meeting) (some .int) Q 120 [some (.ref 53), some (.int (nI a')), some (.int (nI p')), some (.int (nI b')), some (.int (nI q')), some (.int (nI w')), some (.int (nI x)), some (.int (nI t)), some (.int nA), some (.int nB)] [] s1 := by
                intro t x y s1 nA nB hxy hmt hx hz hf hk h2 hL
                obtain ⟨z, hz, hzv⟩ := hz
                have hR1 : MR s1 n c := MR_fr hf (by decide) hR
                refine w_blk 1 (pc' := 121) (ls' := [some (.ref 53), some (.int (nI a')), some (.int (nI p')), some (.int (nI b')), some (.int (nI q')), some (.int (nI w')), some (.int (nI x)), some (.int (nI t)), some (.int nA), some (.int nB)]) (sk' := [.ref 53]) (st' := s1) (fun _ h => h) ?_
                refine w_callV (As := [.ref 53]) (rest := []) rfl rfl rfl (Nat.le_of_ble_eq_true rfl) (Nat.le_of_ble_eq_true rfl) (by first | exact Or.inl ⟨rfl, rfl⟩ | exact Or.inr ⟨rfl, rfl⟩) (m_allLeft (d + 0) n c al x y s1 hR1 hB hal (by omega) hL) ?_
                refine w_if_le rfl (fun _ => ?_) (fun hno => absurd (nI_le (a := al - x - y) (b := 0) (by omega) (by decide)) hno)
                refine w_blk 1 (pc' := 193) (ls' := [some (.ref 53), some (.int (nI a')), some (.int (nI p')), some (.int (nI b')), some (.int (nI q')), some (.int (nI w')), some (.int (nI x)), some (.int (nI t)), some (.int nA), some (.int nB)]) (sk' := [.int (nI w')]) (st' := s1) (fun _ h => h) ?_
                refine w_if_ne rfl (fun h7 => ?_) (fun h7 => ?_)
                · replace h7 : ¬ (w' = 0) := fun hh => h7 ((nI_eq (a := w') (b := 0) (by omega) (by omega)).mpr hh)
                  refine w_blk 2 (pc' := 204) (ls' := [some (.ref 53), some (.int (nI a')), some (.int (nI p')), some (.int (nI b')), some (.int (nI q')), some (.int (nI w')), some (.int (nI x)), some (.int (nI t)), some (.int nA), some (.int nB)]) (sk' := [.int 1, .int (nI w')]) (st' := s1) (fun _ h => h) ?_
                  refine w_cmp_ne rfl (fun h8 => ?_) (fun h8 => ?_)
                  · replace h8 : ¬ (w' = 1) := fun hh => h8 ((nI_eq (a := w') (b := 1) (by omega) (by omega)).mpr hh)
                    refine w_blk 1 (pc' := 216) (ls' := [some (.ref 53), some (.int (nI a')), some (.int (nI p')), some (.int (nI b')), some (.int (nI q')), some (.int (nI w')), some (.int (nI x)), some (.int (nI t)), some (.int nA), some (.int nB)]) (sk' := [.int (nI x)]) (st' := s1) (fun _ h => h) ?_
                    exact w_iret rfl rfl rfl (hq _ s1 ⟨⟨fun hh => absurd hok hh, fun _ hh => absurd hh h6, fun _ _ => ⟨t, z, by rw [eca, ecp, ecb, ecq, hal]; exact hmt, by rw [eca, ecp, ecb, ecq, hal]; exact hz, by rw [if_neg (show ¬ nI w' = (0 : Int32) from fun e => h7 ((nI_eq (a := w') (b := 0) (by omega) (by omega)).mp e)), if_neg (show ¬ nI w' = (1 : Int32) from fun e => h8 ((nI_eq (a := w') (b := 1) (by omega) (by omega)).mp e)), eca, ecp, ecb, ecq, hal, hx]⟩⟩, hf, hk, h2⟩)
                  · replace h8 : w' = 1 := (nI_eq (a := w') (b := 1) (by omega) (by omega)).mp (Decidable.not_not.mp h8)
                    refine w_blk 2 (pc' := 211) (ls' := [some (.ref 53), some (.int (nI a')), some (.int (nI p')), some (.int (nI b')), some (.int (nI q')), some (.int (nI w')), some (.int (nI x)), some (.int (nI t)), some (.int nA), some (.int nB)]) (sk' := [.int (s1.1 53 32)]) (st' := s1) (fun _ h => h) ?_
                    rw [hzv]
                    refine w_blk 1 (pc' := 216) (ls' := [some (.ref 53), some (.int (nI a')), some (.int (nI p')), some (.int (nI b')), some (.int (nI q')), some (.int (nI w')), some (.int (nI x)), some (.int (nI t)), some (.int nA), some (.int nB)]) (sk' := [.int (nI z)]) (st' := s1) (fun _ h => h) ?_
                    exact w_iret rfl rfl rfl (hq _ s1 ⟨⟨fun hh => absurd hok hh, fun _ hh => absurd hh h6, fun _ _ => ⟨t, z, by rw [eca, ecp, ecb, ecq, hal]; exact hmt, by rw [eca, ecp, ecb, ecq, hal]; exact hz, by rw [if_neg (show ¬ nI w' = (0 : Int32) from fun e => h7 ((nI_eq (a := w') (b := 0) (by omega) (by omega)).mp e)), if_pos (show nI w' = (1 : Int32) from (nI_eq (a := w') (b := 1) (by omega) (by omega)).mpr h8)]⟩⟩, hf, hk, h2⟩)
                · replace h7 : w' = 0 := (nI_eq (a := w') (b := 0) (by omega) (by omega)).mp (Decidable.not_not.mp h7)
                  refine w_blk 2 (pc' := 216) (ls' := [some (.ref 53), some (.int (nI a')), some (.int (nI p')), some (.int (nI b')), some (.int (nI q')), some (.int (nI w')), some (.int (nI x)), some (.int (nI t)), some (.int nA), some (.int nB)]) (sk' := [.int (nI t)]) (st' := s1) (fun _ h => h) ?_
                  exact w_iret rfl rfl rfl (hq _ s1 ⟨⟨fun hh => absurd hok hh, fun _ hh => absurd hh h6, fun _ _ => ⟨t, z, by rw [eca, ecp, ecb, ecq, hal]; exact hmt, by rw [eca, ecp, ecb, ecq, hal]; exact hz, by rw [if_pos (show nI w' = (0 : Int32) from (nI_eq (a := w') (b := 0) (by omega) (by omega)).mpr h7)]⟩⟩, hf, hk, h2⟩)
              have key : ∀ (N i j : Nat) (s1 : mSt) (bt : Int32), al - (a' * i + b' * j) ≤ N → a' * i + b' * j < al → p' * i < q' * j + q' → q' * j < p' * i + p' → Fr [53, 78] st s1 → Fk 53 [32] st s1 → s1.2 = st.2 → (∀ k, k < n 2 → s1.1 78 k = nI (lf (sm (cl c)) al (a' * i) (b' * j) k)) → mW (mMC mT (d + 1)) (0, fun _ => 0) (mAtL P_X10_meeting) (some .int) Q 120 [some (.ref 53), some (.int (nI a')), some (.int (nI p')), some (.int (nI b')), some (.int (nI q')), some (.int (nI w')), some (.int (nI (a' * i))), some (.int bt), some (.int (nI (p' * i + p'))), some (.int (nI (q' * j + q')))] [] s1 := by
                intro N
                induction N with
                | zero =>
                  intro i j s1 bt hN hlt hpi hqj hf hk h2 hL
                  exact absurd hlt (by omega)
                | succ N ih =>
                  intro i j s1 bt hN hlt hpi hqj hf hk h2 hL
                  have hR1 : MR s1 n c := MR_fr hf (by decide) hR
                  have hia : i ≤ a' * i := Nat.le_mul_of_pos_left i (by omega)
                  have hjb : j ≤ b' * j := Nat.le_mul_of_pos_left j (by omega)
                  have hpib : p' * i ≤ 99 * 7128 := Nat.mul_le_mul (by omega) (by omega)
                  have hqjb : q' * j ≤ 99 * 7128 := Nat.mul_le_mul (by omega) (by omega)
                  refine w_blk 1 (pc' := 121) (ls' := [some (.ref 53), some (.int (nI a')), some (.int (nI p')), some (.int (nI b')), some (.int (nI q')), some (.int (nI w')), some (.int (nI (a' * i))), some (.int bt), some (.int (nI (p' * i + p'))), some (.int (nI (q' * j + q')))]) (sk' := [.ref 53]) (st' := s1) (fun _ h => h) ?_
                  refine w_callV (As := [.ref 53]) (rest := []) rfl rfl rfl (Nat.le_of_ble_eq_true rfl) (Nat.le_of_ble_eq_true rfl) (by first | exact Or.inl ⟨rfl, rfl⟩ | exact Or.inr ⟨rfl, rfl⟩) (m_allLeft (d + 0) n c al (a' * i) (b' * j) s1 hR1 hB hal (by omega) hL) ?_
                  refine w_if_le rfl (fun hno => absurd hno (fun hh => absurd ((nI_leI (a := al - a' * i - b' * j) (b := 0) (by omega) (by decide)).mp hh) (by omega))) (fun _ => ?_)
                  refine w_blk 2 (pc' := 131) (ls' := [some (.ref 53), some (.int (nI a')), some (.int (nI p')), some (.int (nI b')), some (.int (nI q')), some (.int (nI w')), some (.int (nI (a' * i))), some (.int bt), some (.int (nI (p' * i + p'))), some (.int (nI (q' * j + q')))]) (sk' := [.int (nI (q' * j + q')), .int (nI (p' * i + p'))]) (st' := s1) (fun _ h => h) ?_
                  refine w_cmp_ge rfl (fun h7 => ?_) (fun h7 => ?_)
                  rotate_left
                  · replace h7 : ¬ (q' * j + q' ≤ p' * i + p') := fun hh => h7 ((nI_leI (a := (q' * j + q')) (b := (p' * i + p')) (by omega) (by omega)).mpr hh)
                    refine w_blk 5 (pc' := 147) (ls' := [some (.ref 53), some (.int (nI a')), some (.int (nI p')), some (.int (nI b')), some (.int (nI q')), some (.int (nI w')), some (.int (nI (a' * i))), some (.int (nI (p' * i + p'))), some (.int (nI (p' * i + p'))), some (.int (nI (q' * j + q')))]) (sk' := [.int (nI (p' * i + p')), .int (nI (p' * i + p'))]) (st' := s1) (fun _ h => h) ?_
                    refine w_cmp_ne rfl (fun hno => absurd hno (fun hh => hh rfl)) (fun _ => ?_)
                    refine w_blk 4 (pc' := 155) (ls' := [some (.ref 53), some (.int (nI a')), some (.int (nI p')), some (.int (nI b')), some (.int (nI q')), some (.int (nI w')), some (.int (nI (a' * i))), some (.int (nI (p' * i + p'))), some (.int (nI (p' * i + p'))), some (.int (nI (q' * j + q')))]) (sk' := [.int 1, .int (nI a'), .ref 53, .int (nI (a' * i))]) (st' := s1) (fun _ h => h) ?_
                    obtain ⟨s1, hc_2, hl_3, hz_4, hy_5, hf_6, hk_7, hq_8⟩ := m_strokeA (d + 0) n c al (a' * i) (b' * j) a' s1 hR1 hB hal hal2 (by omega) (by omega) hL
                    refine w_callV (As := [.ref 53, .int (nI a'), .int 1]) (rest := [.int (nI (a' * i))]) rfl rfl rfl (Nat.le_of_ble_eq_true rfl) (Nat.le_of_ble_eq_true rfl) (by first | exact Or.inl ⟨rfl, rfl⟩ | exact Or.inr ⟨rfl, rfl⟩) hc_2 ?_
                    refine w_blk 1 (pc' := 159) (ls' := [some (.ref 53), some (.int (nI a')), some (.int (nI p')), some (.int (nI b')), some (.int (nI q')), some (.int (nI w')), some (.int (nI (a' * i))), some (.int (nI (p' * i + p'))), some (.int (nI (p' * i + p'))), some (.int (nI (q' * j + q')))]) (sk' := [.int ((nI (a' * i)) + (nI (min a' (al - (a' * i) - (b' * j)))))]) (st' := s1) (fun _ h => h) ?_
                    rw [show ((nI (a' * i)) + (nI (min a' (al - (a' * i) - (b' * j))))) = nI ((a' * i) + (min a' (al - (a' * i) - (b' * j)))) from nI_add (a' * i) (min a' (al - (a' * i) - (b' * j)))]
                    refine w_blk 4 (pc' := 165) (ls' := [some (.ref 53), some (.int (nI a')), some (.int (nI p')), some (.int (nI b')), some (.int (nI q')), some (.int (nI w')), some (.int (nI ((a' * i) + (min a' (al - (a' * i) - (b' * j)))))), some (.int (nI (p' * i + p'))), some (.int (nI (p' * i + p'))), some (.int (nI (q' * j + q')))]) (sk' := [.int ((nI (p' * i + p')) + (nI p'))]) (st' := s1) (fun _ h => h) ?_
                    rw [show ((nI (p' * i + p')) + (nI p')) = nI ((p' * i + p') + p') from nI_add (p' * i + p') p']
                    refine w_blk 3 (pc' := 171) (ls' := [some (.ref 53), some (.int (nI a')), some (.int (nI p')), some (.int (nI b')), some (.int (nI q')), some (.int (nI w')), some (.int (nI ((a' * i) + (min a' (al - (a' * i) - (b' * j)))))), some (.int (nI (p' * i + p'))), some (.int (nI ((p' * i + p') + p'))), some (.int (nI (q' * j + q')))]) (sk' := [.int (nI (p' * i + p')), .int (nI (q' * j + q'))]) (st' := s1) (fun _ h => h) ?_
                    refine w_cmp_ne rfl (fun _ => ?_) (fun hno => absurd (fun hh => absurd ((nI_eq (a := q' * j + q') (b := p' * i + p') (by omega) (by omega)).mp hh) (by omega)) hno)
                    obtain ⟨e1, e2, e3⟩ := beat_at (al := al) (a := a') (p := p') (b := b') (q := q') (i := i) (j := j) (t := p' * i + p') (by omega) (by omega) (by omega) (by omega)
                    have e4 : dgt a' p' b' q' (p' * i + p') = a' * (i + 1) + b' * j := dgt_at (div_on (by omega) (by omega)) (div_off (by omega) (by omega))
                    rw [Nat.mul_succ] at e4
                    have e5 : skt a' p' (p' * i + p') = a' := skt_on (i := i) (by omega)
                    rw [e5] at e2 e3
                    by_cases hgo : a' * i + a' + b' * j < al
                    · have hm : min a' (al - a' * i - b' * j) = a' := by omega
                      rw [hm] at hl_3
                      rw [hm]
                      exact ih (i + 1) j s1 _ (by rw [Nat.mul_succ]; omega) (by rw [Nat.mul_succ]; exact hgo) (by rw [Nat.mul_succ]; omega) (by rw [Nat.mul_succ]; omega) (Fr.trans hf hf_6) (Fk.trans hk hk_7) (hq_8.trans h2) hl_3
                    · exact fin (p' * i + p') (a' * i + min a' (al - a' * i - b' * j)) (b' * j) s1 _ _ (by omega) ⟨by omega, by omega, by omega⟩ (by rw [e2]) (by obtain ⟨z, hz, hzv⟩ := hy_5 (by omega); exact ⟨z, by rw [e3, if_pos (by omega), show al - b' * j - 1 = a' * i + min a' (al - a' * i - b' * j) - 1 by omega]; exact hz, hzv⟩) (Fr.trans hf hf_6) (Fk.trans hk hk_7) (hq_8.trans h2) hl_3
                  · replace h7 : q' * j + q' ≤ p' * i + p' := (nI_leI (a := (q' * j + q')) (b := (p' * i + p')) (by omega) (by omega)).mp h7
                    refine w_blk 4 (pc' := 147) (ls' := [some (.ref 53), some (.int (nI a')), some (.int (nI p')), some (.int (nI b')), some (.int (nI q')), some (.int (nI w')), some (.int (nI (a' * i))), some (.int (nI (q' * j + q'))), some (.int (nI (p' * i + p'))), some (.int (nI (q' * j + q')))]) (sk' := [.int (nI (q' * j + q')), .int (nI (p' * i + p'))]) (st' := s1) (fun _ h => h) ?_
                    refine w_cmp_ne rfl (fun h8 => ?_) (fun h8 => ?_)
                    · replace h8 : ¬ (p' * i + p' = q' * j + q') := fun hh => h8 ((nI_eq (a := (p' * i + p')) (b := (q' * j + q')) (by omega) (by omega)).mpr hh)
                      refine w_blk 2 (pc' := 171) (ls' := [some (.ref 53), some (.int (nI a')), some (.int (nI p')), some (.int (nI b')), some (.int (nI q')), some (.int (nI w')), some (.int (nI (a' * i))), some (.int (nI (q' * j + q'))), some (.int (nI (p' * i + p'))), some (.int (nI (q' * j + q')))]) (sk' := [.int (nI (q' * j + q')), .int (nI (q' * j + q'))]) (st' := s1) (fun _ h => h) ?_
                      refine w_cmp_ne rfl (fun hno => absurd hno (fun hh => hh rfl)) (fun _ => ?_)
                      refine w_blk 3 (pc' := 177) (ls' := [some (.ref 53), some (.int (nI a')), some (.int (nI p')), some (.int (nI b')), some (.int (nI q')), some (.int (nI w')), some (.int (nI (a' * i))), some (.int (nI (q' * j + q'))), some (.int (nI (p' * i + p'))), some (.int (nI (q' * j + q')))]) (sk' := [.int (-1), .int (nI b'), .ref 53]) (st' := s1) (fun _ h => h) ?_
                      obtain ⟨s9, hc_10, hl_11, hz_12, hy_13, hf_14, hk_15, hq_16⟩ := m_strokeB (d + 0) n c al (a' * i) (b' * j) b' s1 hR1 hB hal hal2 (by omega) (by omega) hL
                      refine w_callV (As := [.ref 53, .int (nI b'), .int (-1)]) (rest := []) rfl rfl rfl (Nat.le_of_ble_eq_true rfl) (Nat.le_of_ble_eq_true rfl) (by first | exact Or.inl ⟨rfl, rfl⟩ | exact Or.inr ⟨rfl, rfl⟩) hc_10 ?_
                      refine w_blk 4 (pc' := 186) (ls' := [some (.ref 53), some (.int (nI a')), some (.int (nI p')), some (.int (nI b')), some (.int (nI q')), some (.int (nI w')), some (.int (nI (a' * i))), some (.int (nI (q' * j + q'))), some (.int (nI (p' * i + p'))), some (.int (nI (q' * j + q')))]) (sk' := [.int ((nI (q' * j + q')) + (nI q'))]) (st' := s9) (fun _ h => h) ?_
                      rw [show ((nI (q' * j + q')) + (nI q')) = nI ((q' * j + q') + q') from nI_add (q' * j + q') q']
                      refine w_blk 2 (pc' := 120) (ls' := [some (.ref 53), some (.int (nI a')), some (.int (nI p')), some (.int (nI b')), some (.int (nI q')), some (.int (nI w')), some (.int (nI (a' * i))), some (.int (nI (q' * j + q'))), some (.int (nI (p' * i + p'))), some (.int (nI ((q' * j + q') + q')))]) (sk' := []) (st' := s9) (fun _ h => h) ?_
                      obtain ⟨e1, e2, e3⟩ := beat_at (al := al) (a := a') (p := p') (b := b') (q := q') (i := i) (j := j) (t := q' * j + q') (by omega) (by omega) (by omega) (by omega)
                      have e4 : dgt a' p' b' q' (q' * j + q') = a' * i + b' * (j + 1) := dgt_at (div_off (by omega) (by omega)) (div_on (by omega) (by omega))
                      rw [Nat.mul_succ] at e4
                      have e5 : skt a' p' (q' * j + q') = 0 := skt_off (i := i) (by omega) (by omega)
                      rw [e5] at e2 e3
                      by_cases hgo : a' * i + (b' * j + b') < al
                      · have hm : min b' (al - a' * i - b' * j) = b' := by omega
                        rw [hm] at hl_11
                        exact ih i (j + 1) s9 _ (by rw [Nat.mul_succ]; omega) (by rw [Nat.mul_succ]; exact hgo) (by rw [Nat.mul_succ]; omega) (by rw [Nat.mul_succ]; omega) (Fr.trans hf hf_14) (Fk.trans hk hk_15) (hq_16.trans h2) hl_11
                      · exact fin (q' * j + q') (a' * i) (b' * j + min b' (al - a' * i - b' * j)) s9 _ _ (by omega) ⟨by omega, by omega, by omega⟩ (by rw [e2]; omega) (by obtain ⟨z, hz, hzv⟩ := hy_13 (by omega); exact ⟨z, by rw [e3, if_neg (by omega), show a' * i + min 0 (al - a' * i - b' * j) = al - (b' * j + min b' (al - a' * i - b' * j)) by omega]; exact hz, hzv⟩) (Fr.trans hf hf_14) (Fk.trans hk hk_15) (hq_16.trans h2) hl_11
                    · replace h8 : p' * i + p' = q' * j + q' := (nI_eq (a := (p' * i + p')) (b := (q' * j + q')) (by omega) (by omega)).mp (Decidable.not_not.mp h8)
                      refine w_blk 4 (pc' := 155) (ls' := [some (.ref 53), some (.int (nI a')), some (.int (nI p')), some (.int (nI b')), some (.int (nI q')), some (.int (nI w')), some (.int (nI (a' * i))), some (.int (nI (q' * j + q'))), some (.int (nI (p' * i + p'))), some (.int (nI (q' * j + q')))]) (sk' := [.int 1, .int (nI a'), .ref 53, .int (nI (a' * i))]) (st' := s1) (fun _ h => h) ?_
                      obtain ⟨s17, hc_18, hl_19, hz_20, hy_21, hf_22, hk_23, hq_24⟩ := m_strokeA (d + 0) n c al (a' * i) (b' * j) a' s1 hR1 hB hal hal2 (by omega) (by omega) hL
                      refine w_callV (As := [.ref 53, .int (nI a'), .int 1]) (rest := [.int (nI (a' * i))]) rfl rfl rfl (Nat.le_of_ble_eq_true rfl) (Nat.le_of_ble_eq_true rfl) (by first | exact Or.inl ⟨rfl, rfl⟩ | exact Or.inr ⟨rfl, rfl⟩) hc_18 ?_
                      refine w_blk 1 (pc' := 159) (ls' := [some (.ref 53), some (.int (nI a')), some (.int (nI p')), some (.int (nI b')), some (.int (nI q')), some (.int (nI w')), some (.int (nI (a' * i))), some (.int (nI (q' * j + q'))), some (.int (nI (p' * i + p'))), some (.int (nI (q' * j + q')))]) (sk' := [.int ((nI (a' * i)) + (nI (min a' (al - (a' * i) - (b' * j)))))]) (st' := s17) (fun _ h => h) ?_
                      rw [show ((nI (a' * i)) + (nI (min a' (al - (a' * i) - (b' * j))))) = nI ((a' * i) + (min a' (al - (a' * i) - (b' * j)))) from nI_add (a' * i) (min a' (al - (a' * i) - (b' * j)))]
                      refine w_blk 4 (pc' := 165) (ls' := [some (.ref 53), some (.int (nI a')), some (.int (nI p')), some (.int (nI b')), some (.int (nI q')), some (.int (nI w')), some (.int (nI ((a' * i) + (min a' (al - (a' * i) - (b' * j)))))), some (.int (nI (q' * j + q'))), some (.int (nI (p' * i + p'))), some (.int (nI (q' * j + q')))]) (sk' := [.int ((nI (p' * i + p')) + (nI p'))]) (st' := s17) (fun _ h => h) ?_
                      rw [show ((nI (p' * i + p')) + (nI p')) = nI ((p' * i + p') + p') from nI_add (p' * i + p') p']
                      refine w_blk 3 (pc' := 171) (ls' := [some (.ref 53), some (.int (nI a')), some (.int (nI p')), some (.int (nI b')), some (.int (nI q')), some (.int (nI w')), some (.int (nI ((a' * i) + (min a' (al - (a' * i) - (b' * j)))))), some (.int (nI (q' * j + q'))), some (.int (nI ((p' * i + p') + p'))), some (.int (nI (q' * j + q')))]) (sk' := [.int (nI (q' * j + q')), .int (nI (q' * j + q'))]) (st' := s17) (fun _ h => h) ?_
                      have hR2 : MR s17 n c := MR_fr (Fr.trans hf hf_22) (by decide) hR
                      refine w_cmp_ne rfl (fun hno => absurd hno (fun hh => hh rfl)) (fun _ => ?_)
                      refine w_blk 3 (pc' := 177) (ls' := [some (.ref 53), some (.int (nI a')), some (.int (nI p')), some (.int (nI b')), some (.int (nI q')), some (.int (nI w')), some (.int (nI ((a' * i) + (min a' (al - (a' * i) - (b' * j)))))), some (.int (nI (q' * j + q'))), some (.int (nI ((p' * i + p') + p'))), some (.int (nI (q' * j + q')))]) (sk' := [.int (-1), .int (nI b'), .ref 53]) (st' := s17) (fun _ h => h) ?_
                      obtain ⟨s25, hc_26, hl_27, hz_28, hy_29, hf_30, hk_31, hq_32⟩ := m_strokeB (d + 0) n c al (a' * i + min a' (al - a' * i - b' * j)) (b' * j) b' s17 hR2 hB hal hal2 (by omega) (by omega) hl_19
                      refine w_callV (As := [.ref 53, .int (nI b'), .int (-1)]) (rest := []) rfl rfl rfl (Nat.le_of_ble_eq_true rfl) (Nat.le_of_ble_eq_true rfl) (by first | exact Or.inl ⟨rfl, rfl⟩ | exact Or.inr ⟨rfl, rfl⟩) hc_26 ?_
                      refine w_blk 4 (pc' := 186) (ls' := [some (.ref 53), some (.int (nI a')), some (.int (nI p')), some (.int (nI b')), some (.int (nI q')), some (.int (nI w')), some (.int (nI ((a' * i) + (min a' (al - (a' * i) - (b' * j)))))), some (.int (nI (q' * j + q'))), some (.int (nI ((p' * i + p') + p'))), some (.int (nI (q' * j + q')))]) (sk' := [.int ((nI (q' * j + q')) + (nI q'))]) (st' := s25) (fun _ h => h) ?_
                      rw [show ((nI (q' * j + q')) + (nI q')) = nI ((q' * j + q') + q') from nI_add (q' * j + q') q']
                      refine w_blk 2 (pc' := 120) (ls' := [some (.ref 53), some (.int (nI a')), some (.int (nI p')), some (.int (nI b')), some (.int (nI q')), some (.int (nI w')), some (.int (nI ((a' * i) + (min a' (al - (a' * i) - (b' * j)))))), some (.int (nI (q' * j + q'))), some (.int (nI ((p' * i + p') + p'))), some (.int (nI ((q' * j + q') + q')))]) (sk' := []) (st' := s25) (fun _ h => h) ?_
                      obtain ⟨e1, e2, e3⟩ := beat_at (al := al) (a := a') (p := p') (b := b') (q := q') (i := i) (j := j) (t := q' * j + q') (by omega) (by omega) (by omega) (by omega)
                      have e4 : dgt a' p' b' q' (q' * j + q') = a' * (i + 1) + b' * (j + 1) := dgt_at (div_on (by omega) (by omega)) (div_on (by omega) (by omega))
                      rw [Nat.mul_succ, Nat.mul_succ] at e4
                      have e5 : skt a' p' (q' * j + q') = a' := skt_on (i := i) (by omega)
                      rw [e5] at e2 e3
                      by_cases hgo : a' * i + a' + (b' * j + b') < al
                      · have hm : min a' (al - a' * i - b' * j) = a' := by omega
                        have hm2 : min b' (al - (a' * i + min a' (al - a' * i - b' * j)) - b' * j) = b' := by omega
                        rw [hm2, hm] at hl_27
                        rw [hm]
                        exact ih (i + 1) (j + 1) s25 _ (by rw [Nat.mul_succ, Nat.mul_succ]; omega) (by rw [Nat.mul_succ, Nat.mul_succ]; exact hgo) (by rw [Nat.mul_succ, Nat.mul_succ]; omega) (by rw [Nat.mul_succ, Nat.mul_succ]; omega) (Fr.trans (Fr.trans hf hf_22) hf_30) (Fk.trans (Fk.trans hk hk_23) hk_31) (hq_32.trans (hq_24.trans h2)) hl_27
                      · refine fin (q' * j + q') (a' * i + min a' (al - a' * i - b' * j)) (b' * j + min b' (al - (a' * i + min a' (al - a' * i - b' * j)) - b' * j)) s25 _ _ (by omega) ⟨by omega, by omega, by omega⟩ (by rw [e2]) ?_ (Fr.trans (Fr.trans hf hf_22) hf_30) (Fk.trans (Fk.trans hk hk_23) hk_31) (hq_32.trans (hq_24.trans h2)) hl_27
                        by_cases hle : al - a' * i - b' * j ≤ a'
                        · obtain ⟨z, hz, hzv⟩ := hy_21 (by omega)
                          exact ⟨z, by rw [e3, if_pos hle, show al - b' * j - 1 = a' * i + min a' (al - a' * i - b' * j) - 1 by omega]; exact hz, (hz_28 (by omega)).trans hzv⟩
                        · obtain ⟨z, hz, hzv⟩ := hy_29 (by omega)
                          exact ⟨z, by rw [e3, if_neg hle, show a' * i + min a' (al - a' * i - b' * j) = al - (b' * j + min b' (al - (a' * i + min a' (al - a' * i - b' * j)) - b' * j)) by omega]; exact hz, hzv⟩
              refine w_blk 2 (pc' := 68) (ls' := [some (.ref 53), some (.int (nI a')), some (.int (nI p')), some (.int (nI b')), some (.int (nI q')), some (.int (nI w')), some (.int 0), none, none, none]) (sk' := []) (st' := st) (fun _ h => h) ?_
              suffices kl : ∀ (m k : Nat) (s1 : mSt), k + m = n 2 → Fr [53, 78] st s1 → Fk 53 [32] st s1 → s1.2 = st.2 → (∀ j, j < k → s1.1 78 j = nI (cl c j)) → mW (mMC mT (d + 1)) (0, fun _ => 0) (mAtL P_X10_meeting) (some .int) Q 68 [some (.ref 53), some (.int (nI a')), some (.int (nI p')), some (.int (nI b')), some (.int (nI q')), some (.int (nI w')), some (.int (nI k)), none, none, none] [] s1 from kl (n 2) 0 st (by omega) Fr.rf Fk.rf rfl (fun j hj => absurd hj (by omega))
              intro m
              induction m with
              | zero =>
                intro k s1 hk hf hk0 h2 hz
                have hR1 : MR s1 n c := MR_fr hf (by decide) hR
                obtain rfl : n 2 = k := by omega
                refine w_blk 4 (pc' := 75) (ls' := [some (.ref 53), some (.int (nI a')), some (.int (nI p')), some (.int (nI b')), some (.int (nI q')), some (.int (nI w')), some (.int (nI (n 2))), none, none, none]) (sk' := [.int 0, .ref 62, .int (nI (n 2))]) (st' := s1) (fun _ h => h) ?_
                refine w_iald rfl rfl (vp_in_nI (n := 0) (N := 2) (by decide) (by decide)) ?_
                rw [show Int32.toNatClampNeg (0 : Int32) = 0 from rfl]
                rw [hR1.2.2.1]
                refine w_cmp_ge rfl (fun _ => ?_) (fun hno => absurd (Int32.le_refl _) hno)
                refine w_blk 8 (pc' := 120) (ls' := [some (.ref 53), some (.int (nI a')), some (.int (nI p')), some (.int (nI b')), some (.int (nI q')), some (.int (nI w')), some (.int 0), some (.int 0), some (.int (nI p')), some (.int (nI q'))]) (sk' := []) (st' := s1) (fun _ h => h) ?_
                exact (by have hh := key al 0 0 s1 0 (by omega) (by rw [Nat.mul_zero, Nat.mul_zero]; omega) (by rw [Nat.mul_zero, Nat.mul_zero]; omega) (by rw [Nat.mul_zero, Nat.mul_zero]; omega) hf hk0 h2 (fun k hk => by rw [Nat.mul_zero, Nat.mul_zero, lf_0 hmono hk hal, show sm (cl c) (k + 1) - sm (cl c) k = cl c k from Nat.add_sub_cancel_left ..]; exact hz k hk); rw [Nat.mul_zero, Nat.mul_zero, Nat.mul_zero, Nat.zero_add, Nat.zero_add] at hh; exact hh)
              | succ m ihl =>
                intro k s1 hk hf hk0 h2 hz
                have hR1 : MR s1 n c := MR_fr hf (by decide) hR
                have hk2 : k < n 2 := by omega
                have hyk := hcy k hk2
                refine w_blk 4 (pc' := 75) (ls' := [some (.ref 53), some (.int (nI a')), some (.int (nI p')), some (.int (nI b')), some (.int (nI q')), some (.int (nI w')), some (.int (nI k)), none, none, none]) (sk' := [.int 0, .ref 62, .int (nI k)]) (st' := s1) (fun _ h => h) ?_
                refine w_iald rfl rfl (vp_in_nI (n := 0) (N := 2) (by decide) (by decide)) ?_
                rw [show Int32.toNatClampNeg (0 : Int32) = 0 from rfl]
                rw [hR1.2.2.1]
                refine w_cmp_ge rfl (fun hno => absurd hno (nI_ge hk2 (by omega))) (fun _ => ?_)
                refine w_blk 6 (pc' := 91) (ls' := [some (.ref 53), some (.int (nI a')), some (.int (nI p')), some (.int (nI b')), some (.int (nI q')), some (.int (nI w')), some (.int (nI k)), none, none, none]) (sk' := [.int (nI k), .ref 63, .int (nI k), .ref 78]) (st' := s1) (fun _ h => h) ?_
                refine w_iald rfl rfl (vp_in_nI (n := k) (N := 16) (by omega) (by decide)) ?_
                rw [nI_clamp (show k < 2 ^ 31 by omega)]
                rw [(hR1.2.2.2.2.2 k (by omega)).1]
                refine w_blk 3 (pc' := 98) (ls' := [some (.ref 53), some (.int (nI a')), some (.int (nI p')), some (.int (nI b')), some (.int (nI q')), some (.int (nI w')), some (.int (nI k)), none, none, none]) (sk' := [.int (nI k), .ref 64, .int (nI (c 5 k)), .int (nI k), .ref 78]) (st' := s1) (fun _ h => h) ?_
                refine w_iald rfl rfl (vp_in_nI (n := k) (N := 16) (by omega) (by decide)) ?_
                rw [nI_clamp (show k < 2 ^ 31 by omega)]
                rw [(hR1.2.2.2.2.2 k (by omega)).2]
                refine w_blk 1 (pc' := 100) (ls' := [some (.ref 53), some (.int (nI a')), some (.int (nI p')), some (.int (nI b')), some (.int (nI q')), some (.int (nI w')), some (.int (nI k)), none, none, none]) (sk' := [.int ((nI (c 5 k)) * (nI (c 6 k))), .int (nI k), .ref 78]) (st' := s1) (fun _ h => h) ?_
                rw [show ((nI (c 5 k)) * (nI (c 6 k))) = nI ((c 5 k) * (c 6 k)) from pk_mul (c 5 k) (c 6 k)]
                refine w_iast rfl rfl (vp_in_nI (n := k) (N := 8) (by omega) (by decide)) ?_
                rw [nI_clamp (show k < 2 ^ 31 by omega)]
                refine w_blk 1 (pc' := 104) (ls' := [some (.ref 53), some (.int (nI a')), some (.int (nI p')), some (.int (nI b')), some (.int (nI q')), some (.int (nI w')), some (.int ((nI k) + 1)), none, none, none]) (sk' := []) (st' := ((mU s1.1 78 k (nI ((c 5 k) * (c 6 k)))), s1.2)) (fun _ h => h) ?_
                rw [show ((nI k) + 1) = nI (k + 1) from nI_add k 1]
                refine w_blk 1 (pc' := 68) (ls' := [some (.ref 53), some (.int (nI a')), some (.int (nI p')), some (.int (nI b')), some (.int (nI q')), some (.int (nI w')), some (.int (nI (k + 1))), none, none, none]) (sk' := []) (st' := ((mU s1.1 78 k (nI ((c 5 k) * (c 6 k)))), s1.2)) (fun _ h => h) ?_
                exact ihl (k + 1) ((mU s1.1 78 k (nI ((c 5 k) * (c 6 k)))), s1.2) (by omega) (Fr.trans hf (Fr.mU (by decide))) (Fk.trans hk0 (Fk.wn (by decide))) h2 (fun j hj => if ej : j = k then (by rw [ej]; exact mU_at (f := s1.1) (p := 78) (k := k)) else (mU_row ej).trans (hz j (by omega)))
            · replace h6 : n 2 = 0 := (nI_eq (a := (n 2)) (b := 0) (by omega) (by omega)).mp (Decidable.not_not.mp h6)
              refine w_blk 1 (pc' := 64) (ls' := [some (.ref 53), some (.int (nI a')), some (.int (nI p')), some (.int (nI b')), some (.int (nI q')), some (.int (nI w')), none, none, none, none]) (sk' := [.int (-9)]) (st' := st) (fun _ h => h) ?_
              exact w_iret rfl rfl rfl (hq _ st ⟨⟨fun hh => absurd hok hh, fun _ _ => rfl, fun _ hh => absurd h6 hh⟩, Fr.rf, Fk.rf, rfl⟩)
          · replace h5 := pI_eq0.mp (Decidable.not_not.mp h5)
            refine w_blk 1 (pc' := 52) (ls' := [some (.ref 53), some (.int a), some (.int p), some (.int b), some (.int q), some (.int wh), none, none, none, none]) (sk' := [.int (-1)]) (st' := st) (fun _ h => h) ?_
            have hno : ¬ okM a p b q wh := fun hh => by first | exact h1 hh.1 | exact h2 hh.2.1 | exact h3 hh.2.2.1 | exact h4 hh.2.2.2.1 | exact h5 hh.2.2.2.2
            exact w_iret rfl rfl rfl (hq _ st ⟨⟨fun _ => rfl, fun hh => absurd hh hno, fun hh => absurd hh hno⟩, Fr.rf, Fk.rf, rfl⟩)
