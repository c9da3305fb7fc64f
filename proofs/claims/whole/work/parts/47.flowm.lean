/-! FLOWS: the walks of the model -/
theorem w_ldcN {C : Nat → List Value → mSt → Option Value → mSt → Prop} {S : Nat × (Nat → Int32)} {P : Nat → Option mE} {rt : Option FieldType} {Q : Option Value → mSt → Prop} {pc : Nat} {ls : mLs} {st : mSt} {sk : List Value} {i len x : Nat} (hp : P pc = some (.ldc i, len, [0, x], -1000000)) (k : mW C S P rt Q (pc + 2) ls (.int (iI NOi) :: sk) st) : mW C S P rt Q pc ls sk st := w_step hp (fun K k => k) k
theorem two_a {f : Nat → Nat → Int32} {p q k : Nat} {x y : Int32} (h : p ≠ q) : mU (mU f p k x) q k y p k = x := (congrFun (mU_ne h) k).trans mU_at
theorem two_b {f : Nat → Nat → Int32} {p q k : Nat} {x y : Int32} : mU (mU f p k x) q k y q k = y := mU_at
theorem two_c {f : Nat → Nat → Int32} {p q k j : Nat} {x y : Int32} (h : p ≠ q) (hj : j ≠ k) : mU (mU f p k x) q k y p j = f p j := (congrFun (mU_ne h) j).trans (mU_row hj)
theorem two_d {f : Nat → Nat → Int32} {p q k j : Nat} {x y : Int32} (h : q ≠ p) (hj : j ≠ k) : mU (mU f p k x) q k y q j = f q j := (mU_row hj).trans (congrFun (mU_ne h) j)
theorem dD_e (d : Nat) : dD (fun _ _ => false) d = 0 := sm_zero 8 (fun _ _ => if_neg Bool.false_ne_true)
theorem dS_e (s : Nat) : dS (fun _ _ => false) s = 0 := sm_zero 6 (fun _ _ => if_neg Bool.false_ne_true)
theorem MEd_e {st st1 : mSt} {E : EdT} (e : st1.1 67 = st.1 67) (h : MEd st E) : MEd st1 E := fun k hk => by rw [e]; exact h k hk
theorem MTk_e {st st1 : mSt} {E : EdT} (e : st1.1 68 = st.1 68) (h : MTk st E) : MTk st1 E := fun k hk => by rw [e]; exact h k hk
theorem MHd_e {st st1 : mSt} {E : EdT} (e1 : st1.1 69 = st.1 69) (e2 : st1.1 70 = st.1 70) (h : MHd st E) : MHd st1 E := ⟨fun d hd => by rw [e1]; exact h.1 d hd, fun d hd => by rw [e2]; exact h.2 d hd⟩
theorem EN_in {n : Nat → Nat} {c : Nat → Nat → Nat} {u : Nat → Nat} {d s : Nat} (h : EN n c u d s = true) : d < n 0 ∧ s < n 1 := ⟨(of_decide_eq_true h).1, (of_decide_eq_true h).2.1⟩
set_option maxRecDepth 20000 in
/-- findEdges() -/
theorem m_findEdges (d : Nat) (n : Nat → Nat) (c : Nat → Nat → Nat) (v : Nat → Int32) (u : Nat → Nat)  (st : mSt) (hR : MR st n c) (hM : NM0 st v u) (hB : CB n c) (hU : ∀ j, 3 ≤ j → j < 12 → u j < 256) : ∃ (s : mSt), mMC mT (d + 2) 155 [.ref 53] st (none) s ∧ MEd s (EN n c u) ∧ Fr [67] st s := by
  suffices H : ∀ Q : Option Value → mSt → Prop, (∀ (s : mSt), (MEd s (EN n c u) ∧ Fr [67] st s) → Q (none) s) → mW (mMC mT (d + 1)) (0, fun _ => 0) (mAtL P_X10_findEdges) none Q 0 [some (.ref 53), none, none, none] [] st by
    obtain ⟨_, _, ⟨s, rfl, rfl, hp⟩, hw⟩ := mW_ex (H (fun vv tt => ∃ (s : mSt),  vv = none ∧ s = tt ∧ MEd s (EN n c u) ∧ Fr [67] st s) (fun s hp => ⟨s, rfl, rfl, hp⟩))
    exact ⟨s, mI_X10_findEdges (d := d + 1) (Nat.le_of_ble_eq_true rfl) hw, hp⟩
  intro Q hq
  obtain ⟨hb0, hb1, hb2, hbd, hbs, hby⟩ := id hB
  refine w_blk 2 (pc' := 2) (ls' := [some (.ref 53), some (.int 0), none, none]) (sk' := []) (st' := st) (fun _ h => h) ?_
  suffices key : ∀ (m k : Nat) (s0 : mSt) (l2 l3 : Option Value), k + m = 48 → Fr [67] st s0 → (∀ j, j < k → s0.1 67 j = pI (EN n c u (j / 8) (j % 8) = true)) → mW (mMC mT (d + 1)) (0, fun _ => 0) (mAtL P_X10_findEdges) none Q 2 [some (.ref 53), some (.int (nI k)), l2, l3] [] s0 from key 48 0 st none none (by omega) Fr.rf (fun j hj => absurd hj (by omega))
  intro m
  induction m with
  | zero =>
    intro k s0 l2 l3 hk hf hz
    have hR1 : MR s0 n c := MR_fr hf (by decide) hR
    have hM1 : NM0 s0 v u := NM0_fr hf (by decide) hM
    obtain rfl : k = 48 := by omega
    refine w_blk 2 (pc' := 5) (ls' := [some (.ref 53), some (.int (nI 48)), l2, l3]) (sk' := [.int 48, .int (nI 48)]) (st' := s0) (fun _ h => h) ?_
    refine w_cmp_ge rfl (fun _ => ?_) (fun hno => absurd (Int32.le_refl _) hno)
    exact w_vret rfl rfl (hq s0 ⟨hz, hf⟩)
  | succ m ih =>
    intro k s0 l2 l3 hk hf hz
    have hR1 : MR s0 n c := MR_fr hf (by decide) hR
    have hM1 : NM0 s0 v u := NM0_fr hf (by decide) hM
    refine w_blk 2 (pc' := 5) (ls' := [some (.ref 53), some (.int (nI k)), l2, l3]) (sk' := [.int 48, .int (nI k)]) (st' := s0) (fun _ h => h) ?_
    refine w_cmp_ge rfl (fun hno => absurd hno (nI_ge (a := k) (b := 48) (by omega) (by omega))) (fun _ => ?_)
    refine w_blk 2 (pc' := 11) (ls' := [some (.ref 53), some (.int (nI k)), l2, l3]) (sk' := [.int 8, .int (nI k)]) (st' := s0) (fun _ h => h) ?_
    refine w_div rfl (by decide) ?_
    rw [show ((nI k) / 8) = nI (k / 8) from pk_div (a := k) (d := 8) (by omega) (by omega) (by omega)]
    refine w_blk 3 (pc' := 16) (ls' := [some (.ref 53), some (.int (nI k)), some (.int (nI (k / 8))), l3]) (sk' := [.int 8, .int (nI k)]) (st' := s0) (fun _ h => h) ?_
    refine w_rem rfl (by decide) ?_
    rw [show ((nI k) - (nI k) / 8 * 8) = nI (k % 8) from pk_rem (a := k) (d := 8) (by omega) (by omega) (by omega)]
    refine w_blk 8 (pc' := 29) (ls' := [some (.ref 53), some (.int (nI k)), some (.int (nI (k / 8))), some (.int (nI (k % 8)))]) (sk' := [.int 0, .ref 55, .int (nI (k / 8)), .int (nI k), .ref 67]) (st' := s0) (fun _ h => h) ?_
    refine w_iald rfl rfl (vp_in_nI (n := 0) (N := 2) (by decide) (by decide)) ?_
    rw [show Int32.toNatClampNeg (0 : Int32) = 0 from rfl]
    rw [hR1.1]
    refine w_cmp_ge rfl (fun h1 => ?_) (fun h1 => ?_)
    · replace h1 : n 0 ≤ k / 8 := (nI_leI (a := (n 0)) (b := (k / 8)) (by omega) (by omega)).mp h1
      refine w_blk 1 (pc' := 57) (ls' := [some (.ref 53), some (.int (nI k)), some (.int (nI (k / 8))), some (.int (nI (k % 8)))]) (sk' := [.int 0, .int (nI k), .ref 67]) (st' := s0) (fun _ h => h) ?_
      refine w_bast2 rfl rfl (vp_in_nI (n := k) (N := 48) (by omega) (by decide)) (Or.inl rfl) ?_
      rw [nI_clamp (show k < 2 ^ 31 by omega)]
      refine w_blk 1 (pc' := 61) (ls' := [some (.ref 53), some (.int ((nI k) + 1)), some (.int (nI (k / 8))), some (.int (nI (k % 8)))]) (sk' := []) (st' := ((mU s0.1 67 k 0), s0.2)) (fun _ h => h) ?_
      rw [show ((nI k) + 1) = nI (k + 1) from nI_add k 1]
      refine w_blk 1 (pc' := 2) (ls' := [some (.ref 53), some (.int (nI (k + 1))), some (.int (nI (k / 8))), some (.int (nI (k % 8)))]) (sk' := []) (st' := ((mU s0.1 67 k 0), s0.2)) (fun _ h => h) ?_
      exact ih (k + 1) ((mU s0.1 67 k 0), s0.2) _ _ (by omega) (Fr.trans hf (Fr.mU (by decide))) (fun j hj => if ej : j = k then (by rw [ej]; exact (mU_at (f := s0.1) (p := 67) (k := k)).trans (pI_f (fun e => by obtain ⟨q1, q2, q3⟩ := of_decide_eq_true e; first | omega | exact h3 q3)).symm) else (mU_row ej).trans (hz j (by omega)))
    · replace h1 : ¬ (n 0 ≤ k / 8) := fun hh => h1 ((nI_leI (a := (n 0)) (b := (k / 8)) (by omega) (by omega)).mpr hh)
      refine w_blk 4 (pc' := 39) (ls' := [some (.ref 53), some (.int (nI k)), some (.int (nI (k / 8))), some (.int (nI (k % 8)))]) (sk' := [.int 0, .ref 59, .int (nI (k % 8)), .int (nI k), .ref 67]) (st' := s0) (fun _ h => h) ?_
      refine w_iald rfl rfl (vp_in_nI (n := 0) (N := 2) (by decide) (by decide)) ?_
      rw [show Int32.toNatClampNeg (0 : Int32) = 0 from rfl]
      rw [hR1.2.1]
      refine w_cmp_ge rfl (fun h2 => ?_) (fun h2 => ?_)
      · replace h2 : n 1 ≤ k % 8 := (nI_leI (a := (n 1)) (b := (k % 8)) (by omega) (by omega)).mp h2
        refine w_blk 1 (pc' := 57) (ls' := [some (.ref 53), some (.int (nI k)), some (.int (nI (k / 8))), some (.int (nI (k % 8)))]) (sk' := [.int 0, .int (nI k), .ref 67]) (st' := s0) (fun _ h => h) ?_
        refine w_bast2 rfl rfl (vp_in_nI (n := k) (N := 48) (by omega) (by decide)) (Or.inl rfl) ?_
        rw [nI_clamp (show k < 2 ^ 31 by omega)]
        refine w_blk 1 (pc' := 61) (ls' := [some (.ref 53), some (.int ((nI k) + 1)), some (.int (nI (k / 8))), some (.int (nI (k % 8)))]) (sk' := []) (st' := ((mU s0.1 67 k 0), s0.2)) (fun _ h => h) ?_
        rw [show ((nI k) + 1) = nI (k + 1) from nI_add k 1]
        refine w_blk 1 (pc' := 2) (ls' := [some (.ref 53), some (.int (nI (k + 1))), some (.int (nI (k / 8))), some (.int (nI (k % 8)))]) (sk' := []) (st' := ((mU s0.1 67 k 0), s0.2)) (fun _ h => h) ?_
        exact ih (k + 1) ((mU s0.1 67 k 0), s0.2) _ _ (by omega) (Fr.trans hf (Fr.mU (by decide))) (fun j hj => if ej : j = k then (by rw [ej]; exact (mU_at (f := s0.1) (p := 67) (k := k)).trans (pI_f (fun e => by obtain ⟨q1, q2, q3⟩ := of_decide_eq_true e; first | omega | exact h3 q3)).symm) else (mU_row ej).trans (hz j (by omega)))
      · replace h2 : ¬ (n 1 ≤ k % 8) := fun hh => h2 ((nI_leI (a := (n 1)) (b := (k % 8)) (by omega) (by omega)).mpr hh)
        refine w_blk 3 (pc' := 46) (ls' := [some (.ref 53), some (.int (nI k)), some (.int (nI (k / 8))), some (.int (nI (k % 8)))]) (sk' := [.int (nI (k % 8)), .int (nI (k / 8)), .ref 53, .int (nI k), .ref 67]) (st' := s0) (fun _ h => h) ?_
        refine w_callV (As := [.ref 53, .int (nI (k / 8)), .int (nI (k % 8))]) (rest := [.int (nI k), .ref 67]) rfl rfl rfl (Nat.le_of_ble_eq_true rfl) (Nat.le_of_ble_eq_true rfl) (by first | exact Or.inl ⟨rfl, rfl⟩ | exact Or.inr ⟨rfl, rfl⟩) (m_mayNow (d + 0) n c v u (k / 8) (k % 8) s0 hR1 hM1 hB hU (by omega) (by omega)) ?_
        refine w_if_eq rfl (fun h3 => ?_) (fun h3 => ?_)
        · replace h3 := pI_eq0.mp h3
          refine w_blk 1 (pc' := 57) (ls' := [some (.ref 53), some (.int (nI k)), some (.int (nI (k / 8))), some (.int (nI (k % 8)))]) (sk' := [.int 0, .int (nI k), .ref 67]) (st' := s0) (fun _ h => h) ?_
          refine w_bast2 rfl rfl (vp_in_nI (n := k) (N := 48) (by omega) (by decide)) (Or.inl rfl) ?_
          rw [nI_clamp (show k < 2 ^ 31 by omega)]
          refine w_blk 1 (pc' := 61) (ls' := [some (.ref 53), some (.int ((nI k) + 1)), some (.int (nI (k / 8))), some (.int (nI (k % 8)))]) (sk' := []) (st' := ((mU s0.1 67 k 0), s0.2)) (fun _ h => h) ?_
          rw [show ((nI k) + 1) = nI (k + 1) from nI_add k 1]
          refine w_blk 1 (pc' := 2) (ls' := [some (.ref 53), some (.int (nI (k + 1))), some (.int (nI (k / 8))), some (.int (nI (k % 8)))]) (sk' := []) (st' := ((mU s0.1 67 k 0), s0.2)) (fun _ h => h) ?_
          exact ih (k + 1) ((mU s0.1 67 k 0), s0.2) _ _ (by omega) (Fr.trans hf (Fr.mU (by decide))) (fun j hj => if ej : j = k then (by rw [ej]; exact (mU_at (f := s0.1) (p := 67) (k := k)).trans (pI_f (fun e => by obtain ⟨q1, q2, q3⟩ := of_decide_eq_true e; first | omega | exact h3 q3)).symm) else (mU_row ej).trans (hz j (by omega)))
        · replace h3 := pI_ne.mp h3
          refine w_blk 2 (pc' := 57) (ls' := [some (.ref 53), some (.int (nI k)), some (.int (nI (k / 8))), some (.int (nI (k % 8)))]) (sk' := [.int 1, .int (nI k), .ref 67]) (st' := s0) (fun _ h => h) ?_
          refine w_bast2 rfl rfl (vp_in_nI (n := k) (N := 48) (by omega) (by decide)) (Or.inr rfl) ?_
          rw [nI_clamp (show k < 2 ^ 31 by omega)]
          refine w_blk 1 (pc' := 61) (ls' := [some (.ref 53), some (.int ((nI k) + 1)), some (.int (nI (k / 8))), some (.int (nI (k % 8)))]) (sk' := []) (st' := ((mU s0.1 67 k 1), s0.2)) (fun _ h => h) ?_
          rw [show ((nI k) + 1) = nI (k + 1) from nI_add k 1]
          refine w_blk 1 (pc' := 2) (ls' := [some (.ref 53), some (.int (nI (k + 1))), some (.int (nI (k / 8))), some (.int (nI (k % 8)))]) (sk' := []) (st' := ((mU s0.1 67 k 1), s0.2)) (fun _ h => h) ?_
          exact ih (k + 1) ((mU s0.1 67 k 1), s0.2) _ _ (by omega) (Fr.trans hf (Fr.mU (by decide))) (fun j hj => if ej : j = k then (by rw [ej]; exact (mU_at (f := s0.1) (p := 67) (k := k)).trans (pI_t (decide_eq_true ⟨by omega, by omega, h3⟩)).symm) else (mU_row ej).trans (hz j (by omega)))
set_option maxRecDepth 20000 in
/-- begin() -/
theorem m_begin (d : Nat)  (st : mSt) : ∃ (s : mSt), mMC mT (d + 1) 156 [.ref 53] st (none) s ∧ MTk s (fun _ _ => false) ∧ MHd s (fun _ _ => false) ∧ Fr [68, 69, 70] st s := by
  suffices H : ∀ Q : Option Value → mSt → Prop, (∀ (s : mSt), (MTk s (fun _ _ => false) ∧ MHd s (fun _ _ => false) ∧ Fr [68, 69, 70] st s) → Q (none) s) → mW (mMC mT (d + 0)) (0, fun _ => 0) (mAtL P_X10_begin) none Q 0 [some (.ref 53), none] [] st by
    obtain ⟨_, _, ⟨s, rfl, rfl, hp⟩, hw⟩ := mW_ex (H (fun vv tt => ∃ (s : mSt),  vv = none ∧ s = tt ∧ MTk s (fun _ _ => false) ∧ MHd s (fun _ _ => false) ∧ Fr [68, 69, 70] st s) (fun s hp => ⟨s, rfl, rfl, hp⟩))
    exact ⟨s, mI_X10_begin (d := d + 0) (Nat.le_of_ble_eq_true rfl) hw, hp⟩
  intro Q hq
  refine w_blk 2 (pc' := 2) (ls' := [some (.ref 53), some (.int 0)]) (sk' := []) (st' := st) (fun _ h => h) ?_
  have k2 : ∀ (m k : Nat) (s0 : mSt), k + m = 8 → Fr [68, 69, 70] st s0 → (∀ j, j < 48 → s0.1 68 j = 0) → (∀ j, j < 6 → s0.1 69 j = 0) → (∀ j, j < k → s0.1 70 j = 0) → mW (mMC mT (d + 0)) (0, fun _ => 0) (mAtL P_X10_begin) none Q 44 [some (.ref 53), some (.int (nI k))] [] s0 := by
    intro m
    induction m with
    | zero =>
      intro k s0 hk hf z0 z1 hz
      obtain rfl : k = 8 := by omega
      refine w_blk 2 (pc' := 47) (ls' := [some (.ref 53), some (.int (nI 8))]) (sk' := [.int 8, .int (nI 8)]) (st' := s0) (fun _ h => h) ?_
      refine w_cmp_ge rfl (fun _ => ?_) (fun hno => absurd (Int32.le_refl _) hno)
      exact w_vret rfl rfl (hq s0 ⟨fun k hk => (z0 k hk).trans (pI_f Bool.false_ne_true).symm, ⟨fun d hd => (z1 d hd).trans (by rw [dD_e]; rfl), fun s hs => (hz s hs).trans (by rw [dS_e]; rfl)⟩, hf⟩)
    | succ m ih =>
      intro k s0 hk hf z0 z1 hz
      refine w_blk 2 (pc' := 47) (ls' := [some (.ref 53), some (.int (nI k))]) (sk' := [.int 8, .int (nI k)]) (st' := s0) (fun _ h => h) ?_
      refine w_cmp_ge rfl (fun hno => absurd hno (nI_ge (a := k) (b := 8) (by omega) (by omega))) (fun _ => ?_)
      refine w_blk 4 (pc' := 56) (ls' := [some (.ref 53), some (.int (nI k))]) (sk' := [.int 0, .int (nI k), .ref 70]) (st' := s0) (fun _ h => h) ?_
      refine w_iast rfl rfl (vp_in_nI (n := k) (N := 8) (by omega) (by decide)) ?_
      rw [nI_clamp (show k < 2 ^ 31 by omega)]
      refine w_blk 1 (pc' := 60) (ls' := [some (.ref 53), some (.int ((nI k) + 1))]) (sk' := []) (st' := ((mU s0.1 70 k 0), s0.2)) (fun _ h => h) ?_
      rw [show ((nI k) + 1) = nI (k + 1) from nI_add k 1]
      refine w_blk 1 (pc' := 44) (ls' := [some (.ref 53), some (.int (nI (k + 1)))]) (sk' := []) (st' := ((mU s0.1 70 k 0), s0.2)) (fun _ h => h) ?_
      exact ih (k + 1) ((mU s0.1 70 k 0), s0.2) (by omega) (Fr.trans hf (Fr.mU (by decide))) (fun j hj => (congrFun (mU_ne (f := s0.1) (p := 70) (k := k) (q := 68) (x := 0) (by decide)) j).trans (z0 j hj)) (fun j hj => (congrFun (mU_ne (f := s0.1) (p := 70) (k := k) (q := 69) (x := 0) (by decide)) j).trans (z1 j hj)) (fun j hj => if ej : j = k then (by rw [ej]; exact mU_at (f := s0.1) (p := 70) (k := k)) else (mU_row ej).trans (hz j (by omega)))
  have k1 : ∀ (m k : Nat) (s0 : mSt), k + m = 6 → Fr [68, 69, 70] st s0 → (∀ j, j < 48 → s0.1 68 j = 0) → (∀ j, j < k → s0.1 69 j = 0) → mW (mMC mT (d + 0)) (0, fun _ => 0) (mAtL P_X10_begin) none Q 23 [some (.ref 53), some (.int (nI k))] [] s0 := by
    intro m
    induction m with
    | zero =>
      intro k s0 hk hf z0 hz
      obtain rfl : k = 6 := by omega
      refine w_blk 2 (pc' := 26) (ls' := [some (.ref 53), some (.int (nI 6))]) (sk' := [.int 6, .int (nI 6)]) (st' := s0) (fun _ h => h) ?_
      refine w_cmp_ge rfl (fun _ => ?_) (fun hno => absurd (Int32.le_refl _) hno)
      refine w_blk 2 (pc' := 44) (ls' := [some (.ref 53), some (.int 0)]) (sk' := []) (st' := s0) (fun _ h => h) ?_
      exact k2 8 0 s0 (by omega) hf z0 hz (fun j hj => absurd hj (by omega))
    | succ m ih =>
      intro k s0 hk hf z0 hz
      refine w_blk 2 (pc' := 26) (ls' := [some (.ref 53), some (.int (nI k))]) (sk' := [.int 6, .int (nI k)]) (st' := s0) (fun _ h => h) ?_
      refine w_cmp_ge rfl (fun hno => absurd hno (nI_ge (a := k) (b := 6) (by omega) (by omega))) (fun _ => ?_)
      refine w_blk 4 (pc' := 35) (ls' := [some (.ref 53), some (.int (nI k))]) (sk' := [.int 0, .int (nI k), .ref 69]) (st' := s0) (fun _ h => h) ?_
      refine w_iast rfl rfl (vp_in_nI (n := k) (N := 6) (by omega) (by decide)) ?_
      rw [nI_clamp (show k < 2 ^ 31 by omega)]
      refine w_blk 1 (pc' := 39) (ls' := [some (.ref 53), some (.int ((nI k) + 1))]) (sk' := []) (st' := ((mU s0.1 69 k 0), s0.2)) (fun _ h => h) ?_
      rw [show ((nI k) + 1) = nI (k + 1) from nI_add k 1]
      refine w_blk 1 (pc' := 23) (ls' := [some (.ref 53), some (.int (nI (k + 1)))]) (sk' := []) (st' := ((mU s0.1 69 k 0), s0.2)) (fun _ h => h) ?_
      exact ih (k + 1) ((mU s0.1 69 k 0), s0.2) (by omega) (Fr.trans hf (Fr.mU (by decide))) (fun j hj => (congrFun (mU_ne (f := s0.1) (p := 69) (k := k) (q := 68) (x := 0) (by decide)) j).trans (z0 j hj)) (fun j hj => if ej : j = k then (by rw [ej]; exact mU_at (f := s0.1) (p := 69) (k := k)) else (mU_row ej).trans (hz j (by omega)))
  have k0 : ∀ (m k : Nat) (s0 : mSt), k + m = 48 → Fr [68, 69, 70] st s0 → (∀ j, j < k → s0.1 68 j = 0) → mW (mMC mT (d + 0)) (0, fun _ => 0) (mAtL P_X10_begin) none Q 2 [some (.ref 53), some (.int (nI k))] [] s0 := by
    intro m
    induction m with
    | zero =>
      intro k s0 hk hf  hz
      obtain rfl : k = 48 := by omega
      refine w_blk 2 (pc' := 5) (ls' := [some (.ref 53), some (.int (nI 48))]) (sk' := [.int 48, .int (nI 48)]) (st' := s0) (fun _ h => h) ?_
      refine w_cmp_ge rfl (fun _ => ?_) (fun hno => absurd (Int32.le_refl _) hno)
      refine w_blk 2 (pc' := 23) (ls' := [some (.ref 53), some (.int 0)]) (sk' := []) (st' := s0) (fun _ h => h) ?_
      exact k1 6 0 s0 (by omega) hf  hz (fun j hj => absurd hj (by omega))
    | succ m ih =>
      intro k s0 hk hf  hz
      refine w_blk 2 (pc' := 5) (ls' := [some (.ref 53), some (.int (nI k))]) (sk' := [.int 48, .int (nI k)]) (st' := s0) (fun _ h => h) ?_
      refine w_cmp_ge rfl (fun hno => absurd hno (nI_ge (a := k) (b := 48) (by omega) (by omega))) (fun _ => ?_)
      refine w_blk 4 (pc' := 14) (ls' := [some (.ref 53), some (.int (nI k))]) (sk' := [.int 0, .int (nI k), .ref 68]) (st' := s0) (fun _ h => h) ?_
      refine w_bast2 rfl rfl (vp_in_nI (n := k) (N := 48) (by omega) (by decide)) (Or.inl rfl) ?_
      rw [nI_clamp (show k < 2 ^ 31 by omega)]
      refine w_blk 1 (pc' := 18) (ls' := [some (.ref 53), some (.int ((nI k) + 1))]) (sk' := []) (st' := ((mU s0.1 68 k 0), s0.2)) (fun _ h => h) ?_
      rw [show ((nI k) + 1) = nI (k + 1) from nI_add k 1]
      refine w_blk 1 (pc' := 2) (ls' := [some (.ref 53), some (.int (nI (k + 1)))]) (sk' := []) (st' := ((mU s0.1 68 k 0), s0.2)) (fun _ h => h) ?_
      exact ih (k + 1) ((mU s0.1 68 k 0), s0.2) (by omega) (Fr.trans hf (Fr.mU (by decide)))  (fun j hj => if ej : j = k then (by rw [ej]; exact mU_at (f := s0.1) (p := 68) (k := k)) else (mU_row ej).trans (hz j (by omega)))
  exact k0 48 0 st (by omega) Fr.rf (fun j hj => absurd hj (by omega))
set_option maxRecDepth 20000 in
/-- weight(k) -/
theorem m_weight1 (d : Nat) (k : Nat) (st : mSt) (hk : k < 48) : mMC mT (d + 1) 157 [.ref 53, .int (nI k), .int 1] st (some (.int 1000)) st := by
  refine mI_X10_weight (d := d + 0) (Nat.le_of_ble_eq_true rfl) (fun Q hq => ?_)
  show mW (mMC mT (d + 0)) (0, fun _ => 0) (mAtL P_X10_weight) (some .int) Q 0 [some (.ref 53), some (.int (nI k)), some (.int 1)] [] st
  refine w_blk 1 (pc' := 1) (ls' := [some (.ref 53), some (.int (nI k)), some (.int 1)]) (sk' := [.int 1]) (st' := st) (fun _ h => h) ?_
  refine w_if_eq rfl (fun hno => absurd hno (by decide)) (fun _ => ?_)
  refine w_blk 2 (pc' := 29) (ls' := [some (.ref 53), some (.int (nI k)), some (.int 1)]) (sk' := [.int 1000]) (st' := st) (fun _ h => h) ?_
  exact w_iret rfl rfl rfl hq
set_option maxRecDepth 20000 in
/-- weight(k) -/
theorem m_weight0 (d : Nat) (k : Nat) (st : mSt) (hk : k < 48) : mMC mT (d + 1) 157 [.ref 53, .int (nI k), .int 0] st (some (.int (st.1 56 (k / 8) * st.1 60 (k % 8)))) st := by
  refine mI_X10_weight (d := d + 0) (Nat.le_of_ble_eq_true rfl) (fun Q hq => ?_)
  show mW (mMC mT (d + 0)) (0, fun _ => 0) (mAtL P_X10_weight) (some .int) Q 0 [some (.ref 53), some (.int (nI k)), some (.int 0)] [] st
  refine w_blk 1 (pc' := 1) (ls' := [some (.ref 53), some (.int (nI k)), some (.int 0)]) (sk' := [.int 0]) (st' := st) (fun _ h => h) ?_
  refine w_if_eq rfl (fun _ => ?_) (fun hno => absurd (by decide) hno)
  refine w_blk 4 (pc' := 17) (ls' := [some (.ref 53), some (.int (nI k)), some (.int 0)]) (sk' := [.int 8, .int (nI k), .ref 56]) (st' := st) (fun _ h => h) ?_
  refine w_div rfl (by decide) ?_
  rw [show ((nI k) / 8) = nI (k / 8) from pk_div (a := k) (d := 8) (by omega) (by omega) (by omega)]
  refine w_iald rfl rfl (vp_in_nI (n := (k / 8)) (N := 12) (by omega) (by decide)) ?_
  rw [nI_clamp (show (k / 8) < 2 ^ 31 by omega)]
  refine w_blk 4 (pc' := 26) (ls' := [some (.ref 53), some (.int (nI k)), some (.int 0)]) (sk' := [.int 8, .int (nI k), .ref 60, .int (st.1 56 (k / 8))]) (st' := st) (fun _ h => h) ?_
  refine w_rem rfl (by decide) ?_
  rw [show ((nI k) - (nI k) / 8 * 8) = nI (k % 8) from pk_rem (a := k) (d := 8) (by omega) (by omega) (by omega)]
  refine w_iald rfl rfl (vp_in_nI (n := (k % 8)) (N := 16) (by omega) (by decide)) ?_
  rw [nI_clamp (show (k % 8) < 2 ^ 31 by omega)]
  refine w_blk 1 (pc' := 29) (ls' := [some (.ref 53), some (.int (nI k)), some (.int 0)]) (sk' := [.int ((st.1 56 (k / 8)) * (st.1 60 (k % 8)))]) (st' := st) (fun _ h => h) ?_
  exact w_iret rfl rfl rfl hq
set_option maxRecDepth 20000 in
/-- findWays -/
theorem m_findWays1 (d : Nat) (n : Nat → Nat) (c : Nat → Nat → Nat) (E T : EdT) (r : Nat) (p : Nat → Int) (G : Int) (st : mSt) (hR : MR st n c) (hB : CB n c) (hE : MEd st E) (hT : MTk st T) (hH : MHd st T) (hEn : ∀ d s, d < 6 → s < 8 → E d s = true → d < n 0 ∧ s < n 1) (hTE : ∀ d s, d < 6 → s < 8 → T d s = true → E d s = true) (hPV : PV E T (wF n c true) r (n 0) p G) (hr : r ≤ 8) : ∃ (s : mSt), mMC mT (d + 2) 158 [.ref 53, .int (nI r), .int 1] st (none) s ∧ MLb s (fin_ T E (wF n c true) r (n 0)) ∧ Fr [71, 72, 73, 74] st s := by
  suffices H : ∀ Q : Option Value → mSt → Prop, (∀ (s : mSt), (MLb s (fin_ T E (wF n c true) r (n 0)) ∧ Fr [71, 72, 73, 74] st s) → Q (none) s) → mW (mMC mT (d + 1)) (0, fun _ => 0) (mAtL P_X10_findWays) none Q 0 [some (.ref 53), some (.int (nI r)), some (.int 1), none, none, none, none, none] [] st by
    obtain ⟨_, _, ⟨s, rfl, rfl, hp⟩, hw⟩ := mW_ex (H (fun vv tt => ∃ (s : mSt),  vv = none ∧ s = tt ∧ MLb s (fin_ T E (wF n c true) r (n 0)) ∧ Fr [71, 72, 73, 74] st s) (fun s hp => ⟨s, rfl, rfl, hp⟩))
    exact ⟨s, mI_X10_findWays (d := d + 1) (Nat.le_of_ble_eq_true rfl) hw, hp⟩
  intro Q hq
  obtain ⟨hb0, hb1, hb2, hbd, hbs, hby⟩ := id hB
  have hNO : NOi = -1000000 := rfl
  have hww := wF_WB hB true
  refine w_blk 2 (pc' := 2) (ls' := [some (.ref 53), some (.int (nI r)), some (.int 1), some (.int 0), none, none, none, none]) (sk' := []) (st' := st) (fun _ h => h) ?_
  have turns : ∀ (m i : Nat) (s0 : mSt) (l4 l5 l6 l7 : Option Value), i + m = 16 → MLb s0 (tn (fA T E (wF n c true)) (ini T r (n 0)) i) → Fr [71, 72, 73, 74] st s0 → mW (mMC mT (d + 1)) (0, fun _ => 0) (mAtL P_X10_findWays) none Q 86 [some (.ref 53), some (.int (nI r)), some (.int 1), some (.int (nI i)), l4, l5, l6, l7] [] s0 := by
    intro m
    induction m with
    | zero =>
      intro i s0 l4 l5 l6 l7 hi hx hf
      obtain rfl : i = 16 := by omega
      refine w_blk 2 (pc' := 89) (ls' := [some (.ref 53), some (.int (nI r)), some (.int 1), some (.int (nI 16)), l4, l5, l6, l7]) (sk' := [.int 16, .int (nI 16)]) (st' := s0) (fun _ h => h) ?_
      refine w_cmp_ge rfl (fun _ => ?_) (fun hno => absurd (Int32.le_refl _) hno)
      exact w_vret rfl rfl (hq s0 ⟨by have h9 := fin_more hPV hww 3; rw [← h9]; exact hx, hf⟩)
    | succ m ih =>
      intro i s0 l4 l5 l6 l7 hi hx0 hf0
      refine w_blk 2 (pc' := 89) (ls' := [some (.ref 53), some (.int (nI r)), some (.int 1), some (.int (nI i)), l4, l5, l6, l7]) (sk' := [.int 16, .int (nI i)]) (st' := s0) (fun _ h => h) ?_
      refine w_cmp_ge rfl (fun hno => absurd hno (nI_ge (a := i) (b := 16) (by omega) (by omega))) (fun _ => ?_)
      refine w_blk 2 (pc' := 95) (ls' := [some (.ref 53), some (.int (nI r)), some (.int 1), some (.int (nI i)), some (.int 0), l5, l6, l7]) (sk' := []) (st' := s0) (fun _ h => h) ?_
      suffices key : ∀ (m k : Nat) (x : LabT) (s0 : mSt) (l5 l6 l7 : Option Value), k + m = 48 → x = rk (fA T E (wF n c true)) (tn (fA T E (wF n c true)) (ini T r (n 0)) i) k → MLb s0 x → Fr [71, 72, 73, 74] st s0 → mW (mMC mT (d + 1)) (0, fun _ => 0) (mAtL P_X10_findWays) none Q 95 [some (.ref 53), some (.int (nI r)), some (.int 1), some (.int (nI i)), some (.int (nI k)), l5, l6, l7] [] s0 from key 48 0 _ s0 l5 l6 l7 (by omega) rfl hx0 hf0
      intro m2
      induction m2 with
      | zero =>
        intro k x s0 l5 l6 l7 hk hx hL hf
        obtain rfl : k = 48 := by omega
        refine w_blk 2 (pc' := 99) (ls' := [some (.ref 53), some (.int (nI r)), some (.int 1), some (.int (nI i)), some (.int (nI 48)), l5, l6, l7]) (sk' := [.int 48, .int (nI 48)]) (st' := s0) (fun _ h => h) ?_
        refine w_cmp_ge rfl (fun _ => ?_) (fun hno => absurd (Int32.le_refl _) hno)
        refine w_blk 1 (pc' := 280) (ls' := [some (.ref 53), some (.int (nI r)), some (.int 1), some (.int ((nI i) + 1)), some (.int (nI 48)), l5, l6, l7]) (sk' := []) (st' := s0) (fun _ h => h) ?_
        rw [show ((nI i) + 1) = nI (i + 1) from nI_add i 1]
        refine w_blk 1 (pc' := 86) (ls' := [some (.ref 53), some (.int (nI r)), some (.int 1), some (.int (nI (i + 1))), some (.int (nI 48)), l5, l6, l7]) (sk' := []) (st' := s0) (fun _ h => h) ?_
        exact ih (i + 1) s0 _ _ _ _ (by omega) (by show MLb s0 (rk (fA T E (wF n c true)) (tn (fA T E (wF n c true)) (ini T r (n 0)) i) 48); rw [← hx]; exact hL) hf
      | succ m2 ih2 =>
        intro k x s0 l5 l6 l7 hk hx hL hf
        have hR1 : MR s0 n c := MR_fr hf (by decide) hR
        have hE1 : MEd s0 E := MEd_e (hf.1 67 (by decide)) hE
        have hT1 : MTk s0 T := MTk_e (hf.1 68 (by decide)) hT
        have hd6 : k / 8 < 6 := by omega
        have hs8 : k % 8 < 8 := by omega
        have hbd : x.1 (k / 8) = NOi ∨ (-800000 ≤ x.1 (k / 8) ∧ x.1 (k / 8) ≤ 800000) := by rw [hx]; exact LBD_at hww (by omega) (by omega) _
        have hbs : x.1 (6 + k % 8) = NOi ∨ (-800000 ≤ x.1 (6 + k % 8) ∧ x.1 (6 + k % 8) ≤ 800000) := by rw [hx]; exact LBD_at hww (by omega) (by omega) _
        have hwb := hww (k / 8) (k % 8)
        refine w_blk 2 (pc' := 99) (ls' := [some (.ref 53), some (.int (nI r)), some (.int 1), some (.int (nI i)), some (.int (nI k)), l5, l6, l7]) (sk' := [.int 48, .int (nI k)]) (st' := s0) (fun _ h => h) ?_
        refine w_cmp_ge rfl (fun hno => absurd hno (nI_ge (a := k) (b := 48) (by omega) (by omega))) (fun _ => ?_)
        refine w_blk 2 (pc' := 106) (ls' := [some (.ref 53), some (.int (nI r)), some (.int 1), some (.int (nI i)), some (.int (nI k)), l5, l6, l7]) (sk' := [.int 8, .int (nI k)]) (st' := s0) (fun _ h => h) ?_
        refine w_div rfl (by decide) ?_
        rw [show ((nI k) / 8) = nI (k / 8) from pk_div (a := k) (d := 8) (by omega) (by omega) (by omega)]
        refine w_blk 3 (pc' := 113) (ls' := [some (.ref 53), some (.int (nI r)), some (.int 1), some (.int (nI i)), some (.int (nI k)), some (.int (nI (k / 8))), l6, l7]) (sk' := [.int 8, .int (nI k)]) (st' := s0) (fun _ h => h) ?_
        refine w_rem rfl (by decide) ?_
        rw [show ((nI k) - (nI k) / 8 * 8) = nI (k % 8) from pk_rem (a := k) (d := 8) (by omega) (by omega) (by omega)]
        refine w_blk 4 (pc' := 120) (ls' := [some (.ref 53), some (.int (nI r)), some (.int 1), some (.int (nI i)), some (.int (nI k)), some (.int (nI (k / 8))), some (.int (nI (k % 8))), l7]) (sk' := [.int 1, .int (nI k), .ref 53]) (st' := s0) (fun _ h => h) ?_
        refine w_callV (As := [.ref 53, .int (nI k), .int 1]) (rest := []) rfl rfl rfl (Nat.le_of_ble_eq_true rfl) (Nat.le_of_ble_eq_true rfl) (by first | exact Or.inl ⟨rfl, rfl⟩ | exact Or.inr ⟨rfl, rfl⟩) (m_weight1 (d + 0) k s0 (by omega)) ?_
        refine w_blk 4 (pc' := 131) (ls' := [some (.ref 53), some (.int (nI r)), some (.int 1), some (.int (nI i)), some (.int (nI k)), some (.int (nI (k / 8))), some (.int (nI (k % 8))), some (.int 1000)]) (sk' := [.int (nI k), .ref 67]) (st' := s0) (fun _ h => h) ?_
        refine w_bald2 rfl rfl (vp_in_nI (n := k) (N := 48) (by omega) (by decide)) ?_
        rw [nI_clamp (show k < 2 ^ 31 by omega)]
        rw [hE1 k (by omega)]
        refine w_if_eq rfl (fun he => ?_) (fun he => ?_)
        · replace he := pI_eq0.mp he
          have ht : ¬ T (k / 8) (k % 8) = true := fun e => he (hTE _ _ hd6 hs8 e)
          refine w_blk 3 (pc' := 209) (ls' := [some (.ref 53), some (.int (nI r)), some (.int 1), some (.int (nI i)), some (.int (nI k)), some (.int (nI (k / 8))), some (.int (nI (k % 8))), some (.int 1000)]) (sk' := [.int (nI k), .ref 68]) (st' := s0) (fun _ h => h) ?_
          refine w_bald2 rfl rfl (vp_in_nI (n := k) (N := 48) (by omega) (by decide)) ?_
          rw [nI_clamp (show k < 2 ^ 31 by omega)]
          rw [hT1 k (by omega)]
          refine w_if_eq rfl (fun _ => ?_) (fun hno => absurd (pI_f ht) hno)
          refine w_blk 1 (pc' := 274) (ls' := [some (.ref 53), some (.int (nI r)), some (.int 1), some (.int (nI i)), some (.int ((nI k) + 1)), some (.int (nI (k / 8))), some (.int (nI (k % 8))), some (.int 1000)]) (sk' := []) (st' := s0) (fun _ h => h) ?_
          rw [show ((nI k) + 1) = nI (k + 1) from nI_add k 1]
          refine w_blk 1 (pc' := 95) (ls' := [some (.ref 53), some (.int (nI r)), some (.int 1), some (.int (nI i)), some (.int (nI (k + 1))), some (.int (nI (k / 8))), some (.int (nI (k % 8))), some (.int 1000)]) (sk' := []) (st' := s0) (fun _ h => h) ?_
          exact ih2 (k + 1) x s0 _ _ _ (by omega) (by rw [rk_n ht he, ← hx]) hL hf
        · replace he := pI_ne.mp he
          obtain ⟨hdn, hsn⟩ := hEn _ _ hd6 hs8 he
          rw [iI_1000]
          have e9 : wF n c true (k / 8) (k % 8) = 1000 := rfl
          refine w_blk 3 (pc' := 141) (ls' := [some (.ref 53), some (.int (nI r)), some (.int 1), some (.int (nI i)), some (.int (nI k)), some (.int (nI (k / 8))), some (.int (nI (k % 8))), some (.int (iI 1000))]) (sk' := [.int (nI k), .ref 68]) (st' := s0) (fun _ h => h) ?_
          refine w_bald2 rfl rfl (vp_in_nI (n := k) (N := 48) (by omega) (by decide)) ?_
          rw [nI_clamp (show k < 2 ^ 31 by omega)]
          rw [hT1 k (by omega)]
          refine w_if_ne rfl (fun ht => ?_) (fun ht => ?_)
          · replace ht := pI_ne.mp ht
            refine w_blk 3 (pc' := 209) (ls' := [some (.ref 53), some (.int (nI r)), some (.int 1), some (.int (nI i)), some (.int (nI k)), some (.int (nI (k / 8))), some (.int (nI (k % 8))), some (.int (iI 1000))]) (sk' := [.int (nI k), .ref 68]) (st' := s0) (fun _ h => h) ?_
            refine w_bald2 rfl rfl (vp_in_nI (n := k) (N := 48) (by omega) (by decide)) ?_
            rw [nI_clamp (show k < 2 ^ 31 by omega)]
            rw [hT1 k (by omega)]
            refine w_if_eq rfl (fun hno => absurd hno (fun e => (pI_eq0.mp e) ht)) (fun _ => ?_)
            refine w_blk 3 (pc' := 219) (ls' := [some (.ref 53), some (.int (nI r)), some (.int 1), some (.int (nI i)), some (.int (nI k)), some (.int (nI (k / 8))), some (.int (nI (k % 8))), some (.int (iI 1000))]) (sk' := [.int (nI (k % 8)), .ref 72]) (st' := s0) (fun _ h => h) ?_
            refine w_iald rfl rfl (vp_in_nI (n := (k % 8)) (N := 8) (by omega) (by decide)) ?_
            rw [nI_clamp (show (k % 8) < 2 ^ 31 by omega)]
            rw [(hL.2 (k % 8) (by omega)).1]
            refine w_ldcN rfl ?_
            show mW (mMC mT (d + 1)) (0, fun _ => 0) (mAtL P_X10_findWays) none Q 222 [some (.ref 53), some (.int (nI r)), some (.int 1), some (.int (nI i)), some (.int (nI k)), some (.int (nI (k / 8))), some (.int (nI (k % 8))), some (.int (iI 1000))] [.int (iI NOi), .int (iI (x.1 (6 + k % 8)))] s0
            refine w_cmp_le rfl (fun h1 => ?_) (fun h1 => ?_)
            · replace h1 : x.1 (6 + k % 8) ≤ NOi := by exact (iI_le (a := x.1 (6 + k % 8)) (b := NOi) (by omega) (by omega) (by omega) (by omega)).mp h1
              refine w_blk 1 (pc' := 274) (ls' := [some (.ref 53), some (.int (nI r)), some (.int 1), some (.int (nI i)), some (.int ((nI k) + 1)), some (.int (nI (k / 8))), some (.int (nI (k % 8))), some (.int (iI 1000))]) (sk' := []) (st' := s0) (fun _ h => h) ?_
              rw [show ((nI k) + 1) = nI (k + 1) from nI_add k 1]
              refine w_blk 1 (pc' := 95) (ls' := [some (.ref 53), some (.int (nI r)), some (.int 1), some (.int (nI i)), some (.int (nI (k + 1))), some (.int (nI (k / 8))), some (.int (nI (k % 8))), some (.int (iI 1000))]) (sk' := []) (st' := s0) (fun _ h => h) ?_
              exact ih2 (k + 1) x s0 _ _ _ (by omega) (by rw [rk_t ht, ← hx]; exact (if_neg (fun hh => hh.1 (by omega))).symm) hL hf
            · replace h1 : ¬ (x.1 (6 + k % 8) ≤ NOi) := fun hh => h1 (by exact (iI_le (a := x.1 (6 + k % 8)) (b := NOi) (by omega) (by omega) (by omega) (by omega)).mpr hh)
              refine w_blk 3 (pc' := 231) (ls' := [some (.ref 53), some (.int (nI r)), some (.int 1), some (.int (nI i)), some (.int (nI k)), some (.int (nI (k / 8))), some (.int (nI (k % 8))), some (.int (iI 1000))]) (sk' := [.int (nI (k % 8)), .ref 72]) (st' := s0) (fun _ h => h) ?_
              refine w_iald rfl rfl (vp_in_nI (n := (k % 8)) (N := 8) (by omega) (by decide)) ?_
              rw [nI_clamp (show (k % 8) < 2 ^ 31 by omega)]
              rw [(hL.2 (k % 8) (by omega)).1]
              refine w_blk 2 (pc' := 235) (ls' := [some (.ref 53), some (.int (nI r)), some (.int 1), some (.int (nI i)), some (.int (nI k)), some (.int (nI (k / 8))), some (.int (nI (k % 8))), some (.int (iI 1000))]) (sk' := [.int ((iI (x.1 (6 + k % 8))) - (iI 1000))]) (st' := s0) (fun _ h => h) ?_
              rw [show ((iI (x.1 (6 + k % 8))) - (iI 1000)) = iI ((x.1 (6 + k % 8)) - 1000) from iI_sub _ _]
              refine w_blk 3 (pc' := 241) (ls' := [some (.ref 53), some (.int (nI r)), some (.int 1), some (.int (nI i)), some (.int (nI k)), some (.int (nI (k / 8))), some (.int (nI (k % 8))), some (.int (iI 1000))]) (sk' := [.int (nI (k / 8)), .ref 71, .int (iI ((x.1 (6 + k % 8)) - 1000))]) (st' := s0) (fun _ h => h) ?_
              refine w_iald rfl rfl (vp_in_nI (n := (k / 8)) (N := 6) (by omega) (by decide)) ?_
              rw [nI_clamp (show (k / 8) < 2 ^ 31 by omega)]
              rw [(hL.1 (k / 8) (by omega)).1]
              refine w_cmp_le rfl (fun h2 => ?_) (fun h2 => ?_)
              · replace h2 : (x.1 (6 + k % 8)) - 1000 ≤ x.1 (k / 8) := by exact (iI_le (a := (x.1 (6 + k % 8)) - 1000) (b := x.1 (k / 8)) (by omega) (by omega) (by omega) (by omega)).mp h2
                refine w_blk 1 (pc' := 274) (ls' := [some (.ref 53), some (.int (nI r)), some (.int 1), some (.int (nI i)), some (.int ((nI k) + 1)), some (.int (nI (k / 8))), some (.int (nI (k % 8))), some (.int (iI 1000))]) (sk' := []) (st' := s0) (fun _ h => h) ?_
                rw [show ((nI k) + 1) = nI (k + 1) from nI_add k 1]
                refine w_blk 1 (pc' := 95) (ls' := [some (.ref 53), some (.int (nI r)), some (.int 1), some (.int (nI i)), some (.int (nI (k + 1))), some (.int (nI (k / 8))), some (.int (nI (k % 8))), some (.int (iI 1000))]) (sk' := []) (st' := s0) (fun _ h => h) ?_
                exact ih2 (k + 1) x s0 _ _ _ (by omega) (by rw [rk_t ht, ← hx]; exact (if_neg (fun hh => by have := hh.2; omega)).symm) hL hf
              · replace h2 : ¬ ((x.1 (6 + k % 8)) - 1000 ≤ x.1 (k / 8)) := fun hh => h2 (by exact (iI_le (a := (x.1 (6 + k % 8)) - 1000) (b := x.1 (k / 8)) (by omega) (by omega) (by omega) (by omega)).mpr hh)
                refine w_blk 6 (pc' := 257) (ls' := [some (.ref 53), some (.int (nI r)), some (.int 1), some (.int (nI i)), some (.int (nI k)), some (.int (nI (k / 8))), some (.int (nI (k % 8))), some (.int (iI 1000))]) (sk' := [.int (nI (k % 8)), .ref 72, .int (nI (k / 8)), .ref 71]) (st' := s0) (fun _ h => h) ?_
                refine w_iald rfl rfl (vp_in_nI (n := (k % 8)) (N := 8) (by omega) (by decide)) ?_
                rw [nI_clamp (show (k % 8) < 2 ^ 31 by omega)]
                rw [(hL.2 (k % 8) (by omega)).1]
                refine w_blk 2 (pc' := 261) (ls' := [some (.ref 53), some (.int (nI r)), some (.int 1), some (.int (nI i)), some (.int (nI k)), some (.int (nI (k / 8))), some (.int (nI (k % 8))), some (.int (iI 1000))]) (sk' := [.int ((iI (x.1 (6 + k % 8))) - (iI 1000)), .int (nI (k / 8)), .ref 71]) (st' := s0) (fun _ h => h) ?_
                rw [show ((iI (x.1 (6 + k % 8))) - (iI 1000)) = iI ((x.1 (6 + k % 8)) - 1000) from iI_sub _ _]
                refine w_iast rfl rfl (vp_in_nI (n := (k / 8)) (N := 6) (by omega) (by decide)) ?_
                rw [nI_clamp (show (k / 8) < 2 ^ 31 by omega)]
                refine w_blk 4 (pc' := 270) (ls' := [some (.ref 53), some (.int (nI r)), some (.int 1), some (.int (nI i)), some (.int (nI k)), some (.int (nI (k / 8))), some (.int (nI (k % 8))), some (.int (iI 1000))]) (sk' := [.int (nI (k % 8)), .int (nI (k / 8)), .ref 73]) (st' := ((mU s0.1 71 (k / 8) (iI ((x.1 (6 + k % 8)) - 1000))), s0.2)) (fun _ h => h) ?_
                refine w_iast rfl rfl (vp_in_nI (n := (k / 8)) (N := 6) (by omega) (by decide)) ?_
                rw [nI_clamp (show (k / 8) < 2 ^ 31 by omega)]
                refine w_blk 1 (pc' := 274) (ls' := [some (.ref 53), some (.int (nI r)), some (.int 1), some (.int (nI i)), some (.int ((nI k) + 1)), some (.int (nI (k / 8))), some (.int (nI (k % 8))), some (.int (iI 1000))]) (sk' := []) (st' := ((mU (mU s0.1 71 (k / 8) (iI ((x.1 (6 + k % 8)) - 1000))) 73 (k / 8) (nI (k % 8))), s0.2)) (fun _ h => h) ?_
                rw [show ((nI k) + 1) = nI (k + 1) from nI_add k 1]
                refine w_blk 1 (pc' := 95) (ls' := [some (.ref 53), some (.int (nI r)), some (.int 1), some (.int (nI i)), some (.int (nI (k + 1))), some (.int (nI (k / 8))), some (.int (nI (k % 8))), some (.int (iI 1000))]) (sk' := []) (st' := ((mU (mU s0.1 71 (k / 8) (iI ((x.1 (6 + k % 8)) - 1000))) 73 (k / 8) (nI (k % 8))), s0.2)) (fun _ h => h) ?_
                exact ih2 (k + 1) (upI x.1 (k / 8) (x.1 (6 + k % 8) - 1000), updN x.2 (k / 8) (6 + k % 8)) ((mU (mU s0.1 71 (k / 8) (iI ((x.1 (6 + k % 8)) - 1000))) 73 (k / 8) (nI (k % 8))), s0.2) _ _ _ (by omega) (by rw [rk_t ht, ← hx]; refine Eq.trans ?_ (if_pos ⟨by omega, by omega⟩).symm; rw [Int.sub_eq_add_neg]; rfl) (MLb_D hL hd6 hs8) (Fr.trans (Fr.trans hf (Fr.mU (by decide))) (Fr.mU (by decide)))
          · replace ht := pI_eq0.mp (Decidable.not_not.mp ht)
            refine w_blk 3 (pc' := 151) (ls' := [some (.ref 53), some (.int (nI r)), some (.int 1), some (.int (nI i)), some (.int (nI k)), some (.int (nI (k / 8))), some (.int (nI (k % 8))), some (.int (iI 1000))]) (sk' := [.int (nI (k / 8)), .ref 71]) (st' := s0) (fun _ h => h) ?_
            refine w_iald rfl rfl (vp_in_nI (n := (k / 8)) (N := 6) (by omega) (by decide)) ?_
            rw [nI_clamp (show (k / 8) < 2 ^ 31 by omega)]
            rw [(hL.1 (k / 8) (by omega)).1]
            refine w_ldcN rfl ?_
            show mW (mMC mT (d + 1)) (0, fun _ => 0) (mAtL P_X10_findWays) none Q 154 [some (.ref 53), some (.int (nI r)), some (.int 1), some (.int (nI i)), some (.int (nI k)), some (.int (nI (k / 8))), some (.int (nI (k % 8))), some (.int (iI 1000))] [.int (iI NOi), .int (iI (x.1 (k / 8)))] s0
            refine w_cmp_le rfl (fun h1 => ?_) (fun h1 => ?_)
            · replace h1 : x.1 (k / 8) ≤ NOi := by exact (iI_le (a := x.1 (k / 8)) (b := NOi) (by omega) (by omega) (by omega) (by omega)).mp h1
              refine w_blk 3 (pc' := 209) (ls' := [some (.ref 53), some (.int (nI r)), some (.int 1), some (.int (nI i)), some (.int (nI k)), some (.int (nI (k / 8))), some (.int (nI (k % 8))), some (.int (iI 1000))]) (sk' := [.int (nI k), .ref 68]) (st' := s0) (fun _ h => h) ?_
              refine w_bald2 rfl rfl (vp_in_nI (n := k) (N := 48) (by omega) (by decide)) ?_
              rw [nI_clamp (show k < 2 ^ 31 by omega)]
              rw [hT1 k (by omega)]
              refine w_if_eq rfl (fun _ => ?_) (fun hno => absurd (pI_f ht) hno)
              refine w_blk 1 (pc' := 274) (ls' := [some (.ref 53), some (.int (nI r)), some (.int 1), some (.int (nI i)), some (.int ((nI k) + 1)), some (.int (nI (k / 8))), some (.int (nI (k % 8))), some (.int (iI 1000))]) (sk' := []) (st' := s0) (fun _ h => h) ?_
              rw [show ((nI k) + 1) = nI (k + 1) from nI_add k 1]
              refine w_blk 1 (pc' := 95) (ls' := [some (.ref 53), some (.int (nI r)), some (.int 1), some (.int (nI i)), some (.int (nI (k + 1))), some (.int (nI (k / 8))), some (.int (nI (k % 8))), some (.int (iI 1000))]) (sk' := []) (st' := s0) (fun _ h => h) ?_
              exact ih2 (k + 1) x s0 _ _ _ (by omega) (by rw [rk_e ht he, ← hx]; exact (if_neg (fun hh => hh.1 (by omega))).symm) hL hf
            · replace h1 : ¬ (x.1 (k / 8) ≤ NOi) := fun hh => h1 (by exact (iI_le (a := x.1 (k / 8)) (b := NOi) (by omega) (by omega) (by omega) (by omega)).mpr hh)
              refine w_blk 3 (pc' := 163) (ls' := [some (.ref 53), some (.int (nI r)), some (.int 1), some (.int (nI i)), some (.int (nI k)), some (.int (nI (k / 8))), some (.int (nI (k % 8))), some (.int (iI 1000))]) (sk' := [.int (nI (k / 8)), .ref 71]) (st' := s0) (fun _ h => h) ?_
              refine w_iald rfl rfl (vp_in_nI (n := (k / 8)) (N := 6) (by omega) (by decide)) ?_
              rw [nI_clamp (show (k / 8) < 2 ^ 31 by omega)]
              rw [(hL.1 (k / 8) (by omega)).1]
              refine w_blk 2 (pc' := 167) (ls' := [some (.ref 53), some (.int (nI r)), some (.int 1), some (.int (nI i)), some (.int (nI k)), some (.int (nI (k / 8))), some (.int (nI (k % 8))), some (.int (iI 1000))]) (sk' := [.int ((iI (x.1 (k / 8))) + (iI 1000))]) (st' := s0) (fun _ h => h) ?_
              rw [show ((iI (x.1 (k / 8))) + (iI 1000)) = iI ((x.1 (k / 8)) + 1000) from iI_add _ _]
              refine w_blk 3 (pc' := 173) (ls' := [some (.ref 53), some (.int (nI r)), some (.int 1), some (.int (nI i)), some (.int (nI k)), some (.int (nI (k / 8))), some (.int (nI (k % 8))), some (.int (iI 1000))]) (sk' := [.int (nI (k % 8)), .ref 72, .int (iI ((x.1 (k / 8)) + 1000))]) (st' := s0) (fun _ h => h) ?_
              refine w_iald rfl rfl (vp_in_nI (n := (k % 8)) (N := 8) (by omega) (by decide)) ?_
              rw [nI_clamp (show (k % 8) < 2 ^ 31 by omega)]
              rw [(hL.2 (k % 8) (by omega)).1]
              refine w_cmp_le rfl (fun h2 => ?_) (fun h2 => ?_)
              · replace h2 : (x.1 (k / 8)) + 1000 ≤ x.1 (6 + k % 8) := by exact (iI_le (a := (x.1 (k / 8)) + 1000) (b := x.1 (6 + k % 8)) (by omega) (by omega) (by omega) (by omega)).mp h2
                refine w_blk 3 (pc' := 209) (ls' := [some (.ref 53), some (.int (nI r)), some (.int 1), some (.int (nI i)), some (.int (nI k)), some (.int (nI (k / 8))), some (.int (nI (k % 8))), some (.int (iI 1000))]) (sk' := [.int (nI k), .ref 68]) (st' := s0) (fun _ h => h) ?_
                refine w_bald2 rfl rfl (vp_in_nI (n := k) (N := 48) (by omega) (by decide)) ?_
                rw [nI_clamp (show k < 2 ^ 31 by omega)]
                rw [hT1 k (by omega)]
                refine w_if_eq rfl (fun _ => ?_) (fun hno => absurd (pI_f ht) hno)
                refine w_blk 1 (pc' := 274) (ls' := [some (.ref 53), some (.int (nI r)), some (.int 1), some (.int (nI i)), some (.int ((nI k) + 1)), some (.int (nI (k / 8))), some (.int (nI (k % 8))), some (.int (iI 1000))]) (sk' := []) (st' := s0) (fun _ h => h) ?_
                rw [show ((nI k) + 1) = nI (k + 1) from nI_add k 1]
                refine w_blk 1 (pc' := 95) (ls' := [some (.ref 53), some (.int (nI r)), some (.int 1), some (.int (nI i)), some (.int (nI (k + 1))), some (.int (nI (k / 8))), some (.int (nI (k % 8))), some (.int (iI 1000))]) (sk' := []) (st' := s0) (fun _ h => h) ?_
                exact ih2 (k + 1) x s0 _ _ _ (by omega) (by rw [rk_e ht he, ← hx]; exact (if_neg (fun hh => by have := hh.2; omega)).symm) hL hf
              · replace h2 : ¬ ((x.1 (k / 8)) + 1000 ≤ x.1 (6 + k % 8)) := fun hh => h2 (by exact (iI_le (a := (x.1 (k / 8)) + 1000) (b := x.1 (6 + k % 8)) (by omega) (by omega) (by omega) (by omega)).mpr hh)
                refine w_blk 6 (pc' := 189) (ls' := [some (.ref 53), some (.int (nI r)), some (.int 1), some (.int (nI i)), some (.int (nI k)), some (.int (nI (k / 8))), some (.int (nI (k % 8))), some (.int (iI 1000))]) (sk' := [.int (nI (k / 8)), .ref 71, .int (nI (k % 8)), .ref 72]) (st' := s0) (fun _ h => h) ?_
                refine w_iald rfl rfl (vp_in_nI (n := (k / 8)) (N := 6) (by omega) (by decide)) ?_
                rw [nI_clamp (show (k / 8) < 2 ^ 31 by omega)]
                rw [(hL.1 (k / 8) (by omega)).1]
                refine w_blk 2 (pc' := 193) (ls' := [some (.ref 53), some (.int (nI r)), some (.int 1), some (.int (nI i)), some (.int (nI k)), some (.int (nI (k / 8))), some (.int (nI (k % 8))), some (.int (iI 1000))]) (sk' := [.int ((iI (x.1 (k / 8))) + (iI 1000)), .int (nI (k % 8)), .ref 72]) (st' := s0) (fun _ h => h) ?_
                rw [show ((iI (x.1 (k / 8))) + (iI 1000)) = iI ((x.1 (k / 8)) + 1000) from iI_add _ _]
                refine w_iast rfl rfl (vp_in_nI (n := (k % 8)) (N := 8) (by omega) (by decide)) ?_
                rw [nI_clamp (show (k % 8) < 2 ^ 31 by omega)]
                refine w_blk 4 (pc' := 202) (ls' := [some (.ref 53), some (.int (nI r)), some (.int 1), some (.int (nI i)), some (.int (nI k)), some (.int (nI (k / 8))), some (.int (nI (k % 8))), some (.int (iI 1000))]) (sk' := [.int (nI (k / 8)), .int (nI (k % 8)), .ref 74]) (st' := ((mU s0.1 72 (k % 8) (iI ((x.1 (k / 8)) + 1000))), s0.2)) (fun _ h => h) ?_
                refine w_iast rfl rfl (vp_in_nI (n := (k % 8)) (N := 8) (by omega) (by decide)) ?_
                rw [nI_clamp (show (k % 8) < 2 ^ 31 by omega)]
                refine w_blk 3 (pc' := 209) (ls' := [some (.ref 53), some (.int (nI r)), some (.int 1), some (.int (nI i)), some (.int (nI k)), some (.int (nI (k / 8))), some (.int (nI (k % 8))), some (.int (iI 1000))]) (sk' := [.int (nI k), .ref 68]) (st' := ((mU (mU s0.1 72 (k % 8) (iI ((x.1 (k / 8)) + 1000))) 74 (k % 8) (nI (k / 8))), s0.2)) (fun _ h => h) ?_
                refine w_bald2 rfl rfl (vp_in_nI (n := k) (N := 48) (by omega) (by decide)) ?_
                rw [nI_clamp (show k < 2 ^ 31 by omega)]
                show mW (mMC mT (d + 1)) (0, fun _ => 0) (mAtL P_X10_findWays) none Q 210 [some (.ref 53), some (.int (nI r)), some (.int 1), some (.int (nI i)), some (.int (nI k)), some (.int (nI (k / 8))), some (.int (nI (k % 8))), some (.int (iI 1000))] [.int (s0.1 68 k)] ((mU (mU s0.1 72 (k % 8) (iI ((x.1 (k / 8)) + 1000))) 74 (k % 8) (nI (k / 8))), s0.2)
                rw [hT1 k (by omega)]
                refine w_if_eq rfl (fun _ => ?_) (fun hno => absurd (pI_f ht) hno)
                refine w_blk 1 (pc' := 274) (ls' := [some (.ref 53), some (.int (nI r)), some (.int 1), some (.int (nI i)), some (.int ((nI k) + 1)), some (.int (nI (k / 8))), some (.int (nI (k % 8))), some (.int (iI 1000))]) (sk' := []) (st' := ((mU (mU s0.1 72 (k % 8) (iI ((x.1 (k / 8)) + 1000))) 74 (k % 8) (nI (k / 8))), s0.2)) (fun _ h => h) ?_
                rw [show ((nI k) + 1) = nI (k + 1) from nI_add k 1]
                refine w_blk 1 (pc' := 95) (ls' := [some (.ref 53), some (.int (nI r)), some (.int 1), some (.int (nI i)), some (.int (nI (k + 1))), some (.int (nI (k / 8))), some (.int (nI (k % 8))), some (.int (iI 1000))]) (sk' := []) (st' := ((mU (mU s0.1 72 (k % 8) (iI ((x.1 (k / 8)) + 1000))) 74 (k % 8) (nI (k / 8))), s0.2)) (fun _ h => h) ?_
                exact ih2 (k + 1) (upI x.1 (6 + k % 8) (x.1 (k / 8) + 1000), updN x.2 (6 + k % 8) (k / 8)) ((mU (mU s0.1 72 (k % 8) (iI ((x.1 (k / 8)) + 1000))) 74 (k % 8) (nI (k / 8))), s0.2) _ _ _ (by omega) (by rw [rk_e ht he, ← hx]; exact (if_pos ⟨by omega, by omega⟩).symm) (MLb_S hL hd6) (Fr.trans (Fr.trans hf (Fr.mU (by decide))) (Fr.mU (by decide)))
  have bs : ∀ (m k : Nat) (s0 : mSt), k + m = 8 → Fr [71, 72, 73, 74] st s0 → (∀ d, d < 6 → s0.1 71 d = iI ((ini T r (n 0)).1 d) ∧ s0.1 73 d = -9) → (∀ j, j < k → s0.1 72 j = iI NOi ∧ s0.1 74 j = -9) → mW (mMC mT (d + 1)) (0, fun _ => 0) (mAtL P_X10_findWays) none Q 56 [some (.ref 53), some (.int (nI r)), some (.int 1), some (.int (nI k)), none, none, none, none] [] s0 := by
    intro m
    induction m with
    | zero =>
      intro k s0 hk hf hd hz
      obtain rfl : k = 8 := by omega
      refine w_blk 2 (pc' := 59) (ls' := [some (.ref 53), some (.int (nI r)), some (.int 1), some (.int (nI 8)), none, none, none, none]) (sk' := [.int 8, .int (nI 8)]) (st' := s0) (fun _ h => h) ?_
      refine w_cmp_ge rfl (fun _ => ?_) (fun hno => absurd (Int32.le_refl _) hno)
      refine w_blk 2 (pc' := 86) (ls' := [some (.ref 53), some (.int (nI r)), some (.int 1), some (.int 0), none, none, none, none]) (sk' := []) (st' := s0) (fun _ h => h) ?_
      exact turns 16 0 s0 _ _ _ _ (by omega) ⟨fun d h6 => ⟨(hd d h6).1, (hd d h6).2⟩, fun s h8 => ⟨(hz s h8).1.trans (congrArg iI (show NOi = (ini T r (n 0)).1 (6 + s) from (if_neg (by omega)).symm)), (hz s h8).2⟩⟩ hf
    | succ m ih =>
      intro k s0 hk hf hd hz
      refine w_blk 2 (pc' := 59) (ls' := [some (.ref 53), some (.int (nI r)), some (.int 1), some (.int (nI k)), none, none, none, none]) (sk' := [.int 8, .int (nI k)]) (st' := s0) (fun _ h => h) ?_
      refine w_cmp_ge rfl (fun hno => absurd hno (nI_ge (a := k) (b := 8) (by omega) (by omega))) (fun _ => ?_)
      refine w_blk 3 (pc' := 67) (ls' := [some (.ref 53), some (.int (nI r)), some (.int 1), some (.int (nI k)), none, none, none, none]) (sk' := [.int (nI k), .ref 72]) (st' := s0) (fun _ h => h) ?_
      refine w_ldcN rfl ?_
      show mW (mMC mT (d + 1)) (0, fun _ => 0) (mAtL P_X10_findWays) none Q 69 [some (.ref 53), some (.int (nI r)), some (.int 1), some (.int (nI k)), none, none, none, none] [.int (iI NOi), .int (nI k), .ref 72] s0
      refine w_iast rfl rfl (vp_in_nI (n := k) (N := 8) (by omega) (by decide)) ?_
      rw [nI_clamp (show k < 2 ^ 31 by omega)]
      refine w_blk 4 (pc' := 77) (ls' := [some (.ref 53), some (.int (nI r)), some (.int 1), some (.int (nI k)), none, none, none, none]) (sk' := [.int (-9), .int (nI k), .ref 74]) (st' := ((mU s0.1 72 k (iI NOi)), s0.2)) (fun _ h => h) ?_
      refine w_iast rfl rfl (vp_in_nI (n := k) (N := 8) (by omega) (by decide)) ?_
      rw [nI_clamp (show k < 2 ^ 31 by omega)]
      refine w_blk 1 (pc' := 81) (ls' := [some (.ref 53), some (.int (nI r)), some (.int 1), some (.int ((nI k) + 1)), none, none, none, none]) (sk' := []) (st' := ((mU (mU s0.1 72 k (iI NOi)) 74 k (-9)), s0.2)) (fun _ h => h) ?_
      rw [show ((nI k) + 1) = nI (k + 1) from nI_add k 1]
      refine w_blk 1 (pc' := 56) (ls' := [some (.ref 53), some (.int (nI r)), some (.int 1), some (.int (nI (k + 1))), none, none, none, none]) (sk' := []) (st' := ((mU (mU s0.1 72 k (iI NOi)) 74 k (-9)), s0.2)) (fun _ h => h) ?_
      exact ih (k + 1) ((mU (mU s0.1 72 k (iI NOi)) 74 k (-9)), s0.2) (by omega) (Fr.trans (Fr.trans hf (Fr.mU (by decide))) (Fr.mU (by decide))) hd (fun j hj => if ej : j = k then (by rw [ej]; exact ⟨(two_a (f := s0.1) (p := 72) (q := 74) (k := k) (x := iI NOi) (y := -9) (by decide)), two_b (f := s0.1) (p := 72) (q := 74) (k := k) (x := iI NOi) (y := -9)⟩) else ⟨(two_c (f := s0.1) (p := 72) (q := 74) (k := k) (x := iI NOi) (y := -9) (by decide) ej).trans (hz j (by omega)).1, (two_d (f := s0.1) (p := 72) (q := 74) (k := k) (x := iI NOi) (y := -9) (by decide) ej).trans (hz j (by omega)).2⟩)
  suffices bd : ∀ (m k : Nat) (s0 : mSt), k + m = 6 → Fr [71, 72, 73, 74] st s0 → (∀ d, d < k → s0.1 71 d = iI ((ini T r (n 0)).1 d) ∧ s0.1 73 d = -9) → mW (mMC mT (d + 1)) (0, fun _ => 0) (mAtL P_X10_findWays) none Q 2 [some (.ref 53), some (.int (nI r)), some (.int 1), some (.int (nI k)), none, none, none, none] [] s0 from bd 6 0 st (by omega) Fr.rf (fun j hj => absurd hj (by omega))
  intro m
  induction m with
  | zero =>
    intro k s0 hk hf hz
    obtain rfl : k = 6 := by omega
    refine w_blk 2 (pc' := 5) (ls' := [some (.ref 53), some (.int (nI r)), some (.int 1), some (.int (nI 6)), none, none, none, none]) (sk' := [.int 6, .int (nI 6)]) (st' := s0) (fun _ h => h) ?_
    refine w_cmp_ge rfl (fun _ => ?_) (fun hno => absurd (Int32.le_refl _) hno)
    refine w_blk 2 (pc' := 56) (ls' := [some (.ref 53), some (.int (nI r)), some (.int 1), some (.int 0), none, none, none, none]) (sk' := []) (st' := s0) (fun _ h => h) ?_
    exact bs 8 0 s0 (by omega) hf hz (fun j hj => absurd hj (by omega))
  | succ m ih =>
    intro k s0 hk hf hz
    have hR1 : MR s0 n c := MR_fr hf (by decide) hR
    have hH1 : MHd s0 T := MHd_e (hf.1 69 (by decide)) (hf.1 70 (by decide)) hH
    have hdk := dD_8 T k
    refine w_blk 2 (pc' := 5) (ls' := [some (.ref 53), some (.int (nI r)), some (.int 1), some (.int (nI k)), none, none, none, none]) (sk' := [.int 6, .int (nI k)]) (st' := s0) (fun _ h => h) ?_
    refine w_cmp_ge rfl (fun hno => absurd hno (nI_ge (a := k) (b := 6) (by omega) (by omega))) (fun _ => ?_)
    refine w_blk 7 (pc' := 19) (ls' := [some (.ref 53), some (.int (nI r)), some (.int 1), some (.int (nI k)), none, none, none, none]) (sk' := [.int 0, .ref 55, .int (nI k), .int (nI k), .ref 71]) (st' := s0) (fun _ h => h) ?_
    refine w_iald rfl rfl (vp_in_nI (n := 0) (N := 2) (by decide) (by decide)) ?_
    rw [show Int32.toNatClampNeg (0 : Int32) = 0 from rfl]
    rw [hR1.1]
    refine w_cmp_ge rfl (fun h1 => ?_) (fun h1 => ?_)
    · replace h1 : n 0 ≤ k := (nI_leI (a := (n 0)) (b := k) (by omega) (by omega)).mp h1
      refine w_ldcN rfl ?_
      show mW (mMC mT (d + 1)) (0, fun _ => 0) (mAtL P_X10_findWays) none Q 39 [some (.ref 53), some (.int (nI r)), some (.int 1), some (.int (nI k)), none, none, none, none] [.int (iI NOi), .int (nI k), .ref 71] s0
      refine w_iast rfl rfl (vp_in_nI (n := k) (N := 6) (by omega) (by decide)) ?_
      rw [nI_clamp (show k < 2 ^ 31 by omega)]
      refine w_blk 4 (pc' := 47) (ls' := [some (.ref 53), some (.int (nI r)), some (.int 1), some (.int (nI k)), none, none, none, none]) (sk' := [.int (-9), .int (nI k), .ref 73]) (st' := ((mU s0.1 71 k (iI NOi)), s0.2)) (fun _ h => h) ?_
      refine w_iast rfl rfl (vp_in_nI (n := k) (N := 6) (by omega) (by decide)) ?_
      rw [nI_clamp (show k < 2 ^ 31 by omega)]
      refine w_blk 1 (pc' := 51) (ls' := [some (.ref 53), some (.int (nI r)), some (.int 1), some (.int ((nI k) + 1)), none, none, none, none]) (sk' := []) (st' := ((mU (mU s0.1 71 k (iI NOi)) 73 k (-9)), s0.2)) (fun _ h => h) ?_
      rw [show ((nI k) + 1) = nI (k + 1) from nI_add k 1]
      refine w_blk 1 (pc' := 2) (ls' := [some (.ref 53), some (.int (nI r)), some (.int 1), some (.int (nI (k + 1))), none, none, none, none]) (sk' := []) (st' := ((mU (mU s0.1 71 k (iI NOi)) 73 k (-9)), s0.2)) (fun _ h => h) ?_
      exact ih (k + 1) ((mU (mU s0.1 71 k (iI NOi)) 73 k (-9)), s0.2) (by omega) (Fr.trans (Fr.trans hf (Fr.mU (by decide))) (Fr.mU (by decide))) (fun j hj => if ej : j = k then (by rw [ej]; exact ⟨(two_a (f := s0.1) (p := 71) (q := 73) (k := k) (x := iI NOi) (y := -9) (by decide)).trans (congrArg iI (show NOi = (ini T r (n 0)).1 k from (if_neg (fun hh => by omega)).symm)), two_b (f := s0.1) (p := 71) (q := 73) (k := k) (x := iI NOi) (y := -9)⟩) else ⟨(two_c (f := s0.1) (p := 71) (q := 73) (k := k) (x := iI NOi) (y := -9) (by decide) ej).trans (hz j (by omega)).1, (two_d (f := s0.1) (p := 71) (q := 73) (k := k) (x := iI NOi) (y := -9) (by decide) ej).trans (hz j (by omega)).2⟩)
    · replace h1 : ¬ (n 0 ≤ k) := fun hh => h1 ((nI_leI (a := (n 0)) (b := k) (by omega) (by omega)).mpr hh)
      refine w_blk 3 (pc' := 28) (ls' := [some (.ref 53), some (.int (nI r)), some (.int 1), some (.int (nI k)), none, none, none, none]) (sk' := [.int (nI k), .ref 69, .int (nI k), .ref 71]) (st' := s0) (fun _ h => h) ?_
      refine w_iald rfl rfl (vp_in_nI (n := k) (N := 6) (by omega) (by decide)) ?_
      rw [nI_clamp (show k < 2 ^ 31 by omega)]
      rw [hH1.1 k (by omega)]
      refine w_blk 1 (pc' := 30) (ls' := [some (.ref 53), some (.int (nI r)), some (.int 1), some (.int (nI k)), none, none, none, none]) (sk' := [.int (nI r), .int (nI (dD T k)), .int (nI k), .ref 71]) (st' := s0) (fun _ h => h) ?_
      refine w_cmp_ge rfl (fun h2 => ?_) (fun h2 => ?_)
      · replace h2 : r ≤ dD T k := (nI_leI (a := r) (b := (dD T k)) (by omega) (by omega)).mp h2
        refine w_ldcN rfl ?_
        show mW (mMC mT (d + 1)) (0, fun _ => 0) (mAtL P_X10_findWays) none Q 39 [some (.ref 53), some (.int (nI r)), some (.int 1), some (.int (nI k)), none, none, none, none] [.int (iI NOi), .int (nI k), .ref 71] s0
        refine w_iast rfl rfl (vp_in_nI (n := k) (N := 6) (by omega) (by decide)) ?_
        rw [nI_clamp (show k < 2 ^ 31 by omega)]
        refine w_blk 4 (pc' := 47) (ls' := [some (.ref 53), some (.int (nI r)), some (.int 1), some (.int (nI k)), none, none, none, none]) (sk' := [.int (-9), .int (nI k), .ref 73]) (st' := ((mU s0.1 71 k (iI NOi)), s0.2)) (fun _ h => h) ?_
        refine w_iast rfl rfl (vp_in_nI (n := k) (N := 6) (by omega) (by decide)) ?_
        rw [nI_clamp (show k < 2 ^ 31 by omega)]
        refine w_blk 1 (pc' := 51) (ls' := [some (.ref 53), some (.int (nI r)), some (.int 1), some (.int ((nI k) + 1)), none, none, none, none]) (sk' := []) (st' := ((mU (mU s0.1 71 k (iI NOi)) 73 k (-9)), s0.2)) (fun _ h => h) ?_
        rw [show ((nI k) + 1) = nI (k + 1) from nI_add k 1]
        refine w_blk 1 (pc' := 2) (ls' := [some (.ref 53), some (.int (nI r)), some (.int 1), some (.int (nI (k + 1))), none, none, none, none]) (sk' := []) (st' := ((mU (mU s0.1 71 k (iI NOi)) 73 k (-9)), s0.2)) (fun _ h => h) ?_
        exact ih (k + 1) ((mU (mU s0.1 71 k (iI NOi)) 73 k (-9)), s0.2) (by omega) (Fr.trans (Fr.trans hf (Fr.mU (by decide))) (Fr.mU (by decide))) (fun j hj => if ej : j = k then (by rw [ej]; exact ⟨(two_a (f := s0.1) (p := 71) (q := 73) (k := k) (x := iI NOi) (y := -9) (by decide)).trans (congrArg iI (show NOi = (ini T r (n 0)).1 k from (if_neg (fun hh => by omega)).symm)), two_b (f := s0.1) (p := 71) (q := 73) (k := k) (x := iI NOi) (y := -9)⟩) else ⟨(two_c (f := s0.1) (p := 71) (q := 73) (k := k) (x := iI NOi) (y := -9) (by decide) ej).trans (hz j (by omega)).1, (two_d (f := s0.1) (p := 71) (q := 73) (k := k) (x := iI NOi) (y := -9) (by decide) ej).trans (hz j (by omega)).2⟩)
      · replace h2 : ¬ (r ≤ dD T k) := fun hh => h2 ((nI_leI (a := r) (b := (dD T k)) (by omega) (by omega)).mpr hh)
        refine w_blk 2 (pc' := 39) (ls' := [some (.ref 53), some (.int (nI r)), some (.int 1), some (.int (nI k)), none, none, none, none]) (sk' := [.int 0, .int (nI k), .ref 71]) (st' := s0) (fun _ h => h) ?_
        refine w_iast rfl rfl (vp_in_nI (n := k) (N := 6) (by omega) (by decide)) ?_
        rw [nI_clamp (show k < 2 ^ 31 by omega)]
        refine w_blk 4 (pc' := 47) (ls' := [some (.ref 53), some (.int (nI r)), some (.int 1), some (.int (nI k)), none, none, none, none]) (sk' := [.int (-9), .int (nI k), .ref 73]) (st' := ((mU s0.1 71 k 0), s0.2)) (fun _ h => h) ?_
        refine w_iast rfl rfl (vp_in_nI (n := k) (N := 6) (by omega) (by decide)) ?_
        rw [nI_clamp (show k < 2 ^ 31 by omega)]
        refine w_blk 1 (pc' := 51) (ls' := [some (.ref 53), some (.int (nI r)), some (.int 1), some (.int ((nI k) + 1)), none, none, none, none]) (sk' := []) (st' := ((mU (mU s0.1 71 k 0) 73 k (-9)), s0.2)) (fun _ h => h) ?_
        rw [show ((nI k) + 1) = nI (k + 1) from nI_add k 1]
        refine w_blk 1 (pc' := 2) (ls' := [some (.ref 53), some (.int (nI r)), some (.int 1), some (.int (nI (k + 1))), none, none, none, none]) (sk' := []) (st' := ((mU (mU s0.1 71 k 0) 73 k (-9)), s0.2)) (fun _ h => h) ?_
        exact ih (k + 1) ((mU (mU s0.1 71 k 0) 73 k (-9)), s0.2) (by omega) (Fr.trans (Fr.trans hf (Fr.mU (by decide))) (Fr.mU (by decide))) (fun j hj => if ej : j = k then (by rw [ej]; exact ⟨(two_a (f := s0.1) (p := 71) (q := 73) (k := k) (x := 0) (y := -9) (by decide)).trans (by rw [show (ini T r (n 0)).1 k = 0 from if_pos ⟨by omega, by omega, by omega⟩]; exact iI_0), two_b (f := s0.1) (p := 71) (q := 73) (k := k) (x := 0) (y := -9)⟩) else ⟨(two_c (f := s0.1) (p := 71) (q := 73) (k := k) (x := 0) (y := -9) (by decide) ej).trans (hz j (by omega)).1, (two_d (f := s0.1) (p := 71) (q := 73) (k := k) (x := 0) (y := -9) (by decide) ej).trans (hz j (by omega)).2⟩)
set_option maxRecDepth 20000 in
/-- findWays -/
theorem m_findWays0 (d : Nat) (n : Nat → Nat) (c : Nat → Nat → Nat) (E T : EdT) (r : Nat) (p : Nat → Int) (G : Int) (st : mSt) (hR : MR st n c) (hB : CB n c) (hE : MEd st E) (hT : MTk st T) (hH : MHd st T) (hEn : ∀ d s, d < 6 → s < 8 → E d s = true → d < n 0 ∧ s < n 1) (hTE : ∀ d s, d < 6 → s < 8 → T d s = true → E d s = true) (hPV : PV E T (wF n c false) r (n 0) p G) (hr : r ≤ 8) : ∃ (s : mSt), mMC mT (d + 2) 158 [.ref 53, .int (nI r), .int 0] st (none) s ∧ MLb s (fin_ T E (wF n c false) r (n 0)) ∧ Fr [71, 72, 73, 74] st s := by
  suffices H : ∀ Q : Option Value → mSt → Prop, (∀ (s : mSt), (MLb s (fin_ T E (wF n c false) r (n 0)) ∧ Fr [71, 72, 73, 74] st s) → Q (none) s) → mW (mMC mT (d + 1)) (0, fun _ => 0) (mAtL P_X10_findWays) none Q 0 [some (.ref 53), some (.int (nI r)), some (.int 0), none, none, none, none, none] [] st by
    obtain ⟨_, _, ⟨s, rfl, rfl, hp⟩, hw⟩ := mW_ex (H (fun vv tt => ∃ (s : mSt),  vv = none ∧ s = tt ∧ MLb s (fin_ T E (wF n c false) r (n 0)) ∧ Fr [71, 72, 73, 74] st s) (fun s hp => ⟨s, rfl, rfl, hp⟩))
    exact ⟨s, mI_X10_findWays (d := d + 1) (Nat.le_of_ble_eq_true rfl) hw, hp⟩
  intro Q hq
  obtain ⟨hb0, hb1, hb2, hbd, hbs, hby⟩ := id hB
  have hNO : NOi = -1000000 := rfl
  have hww := wF_WB hB false
  refine w_blk 2 (pc' := 2) (ls' := [some (.ref 53), some (.int (nI r)), some (.int 0), some (.int 0), none, none, none, none]) (sk' := []) (st' := st) (fun _ h => h) ?_
  have turns : ∀ (m i : Nat) (s0 : mSt) (l4 l5 l6 l7 : Option Value), i + m = 16 → MLb s0 (tn (fA T E (wF n c false)) (ini T r (n 0)) i) → Fr [71, 72, 73, 74] st s0 → mW (mMC mT (d + 1)) (0, fun _ => 0) (mAtL P_X10_findWays) none Q 86 [some (.ref 53), some (.int (nI r)), some (.int 0), some (.int (nI i)), l4, l5, l6, l7] [] s0 := by
    intro m
    induction m with
    | zero =>
      intro i s0 l4 l5 l6 l7 hi hx hf
      obtain rfl : i = 16 := by omega
      refine w_blk 2 (pc' := 89) (ls' := [some (.ref 53), some (.int (nI r)), some (.int 0), some (.int (nI 16)), l4, l5, l6, l7]) (sk' := [.int 16, .int (nI 16)]) (st' := s0) (fun _ h => h) ?_
      refine w_cmp_ge rfl (fun _ => ?_) (fun hno => absurd (Int32.le_refl _) hno)
      exact w_vret rfl rfl (hq s0 ⟨by have h9 := fin_more hPV hww 3; rw [← h9]; exact hx, hf⟩)
    | succ m ih =>
      intro i s0 l4 l5 l6 l7 hi hx0 hf0
      refine w_blk 2 (pc' := 89) (ls' := [some (.ref 53), some (.int (nI r)), some (.int 0), some (.int (nI i)), l4, l5, l6, l7]) (sk' := [.int 16, .int (nI i)]) (st' := s0) (fun _ h => h) ?_
      refine w_cmp_ge rfl (fun hno => absurd hno (nI_ge (a := i) (b := 16) (by omega) (by omega))) (fun _ => ?_)
      refine w_blk 2 (pc' := 95) (ls' := [some (.ref 53), some (.int (nI r)), some (.int 0), some (.int (nI i)), some (.int 0), l5, l6, l7]) (sk' := []) (st' := s0) (fun _ h => h) ?_
      suffices key : ∀ (m k : Nat) (x : LabT) (s0 : mSt) (l5 l6 l7 : Option Value), k + m = 48 → x = rk (fA T E (wF n c false)) (tn (fA T E (wF n c false)) (ini T r (n 0)) i) k → MLb s0 x → Fr [71, 72, 73, 74] st s0 → mW (mMC mT (d + 1)) (0, fun _ => 0) (mAtL P_X10_findWays) none Q 95 [some (.ref 53), some (.int (nI r)), some (.int 0), some (.int (nI i)), some (.int (nI k)), l5, l6, l7] [] s0 from key 48 0 _ s0 l5 l6 l7 (by omega) rfl hx0 hf0
      intro m2
      induction m2 with
      | zero =>
        intro k x s0 l5 l6 l7 hk hx hL hf
        obtain rfl : k = 48 := by omega
        refine w_blk 2 (pc' := 99) (ls' := [some (.ref 53), some (.int (nI r)), some (.int 0), some (.int (nI i)), some (.int (nI 48)), l5, l6, l7]) (sk' := [.int 48, .int (nI 48)]) (st' := s0) (fun _ h => h) ?_
        refine w_cmp_ge rfl (fun _ => ?_) (fun hno => absurd (Int32.le_refl _) hno)
        refine w_blk 1 (pc' := 280) (ls' := [some (.ref 53), some (.int (nI r)), some (.int 0), some (.int ((nI i) + 1)), some (.int (nI 48)), l5, l6, l7]) (sk' := []) (st' := s0) (fun _ h => h) ?_
        rw [show ((nI i) + 1) = nI (i + 1) from nI_add i 1]
        refine w_blk 1 (pc' := 86) (ls' := [some (.ref 53), some (.int (nI r)), some (.int 0), some (.int (nI (i + 1))), some (.int (nI 48)), l5, l6, l7]) (sk' := []) (st' := s0) (fun _ h => h) ?_
        exact ih (i + 1) s0 _ _ _ _ (by omega) (by show MLb s0 (rk (fA T E (wF n c false)) (tn (fA T E (wF n c false)) (ini T r (n 0)) i) 48); rw [← hx]; exact hL) hf
      | succ m2 ih2 =>
        intro k x s0 l5 l6 l7 hk hx hL hf
        have hR1 : MR s0 n c := MR_fr hf (by decide) hR
        have hE1 : MEd s0 E := MEd_e (hf.1 67 (by decide)) hE
        have hT1 : MTk s0 T := MTk_e (hf.1 68 (by decide)) hT
        have hd6 : k / 8 < 6 := by omega
        have hs8 : k % 8 < 8 := by omega
        have hbd : x.1 (k / 8) = NOi ∨ (-800000 ≤ x.1 (k / 8) ∧ x.1 (k / 8) ≤ 800000) := by rw [hx]; exact LBD_at hww (by omega) (by omega) _
        have hbs : x.1 (6 + k % 8) = NOi ∨ (-800000 ≤ x.1 (6 + k % 8) ∧ x.1 (6 + k % 8) ≤ 800000) := by rw [hx]; exact LBD_at hww (by omega) (by omega) _
        have hwb := hww (k / 8) (k % 8)
        refine w_blk 2 (pc' := 99) (ls' := [some (.ref 53), some (.int (nI r)), some (.int 0), some (.int (nI i)), some (.int (nI k)), l5, l6, l7]) (sk' := [.int 48, .int (nI k)]) (st' := s0) (fun _ h => h) ?_
        refine w_cmp_ge rfl (fun hno => absurd hno (nI_ge (a := k) (b := 48) (by omega) (by omega))) (fun _ => ?_)
        refine w_blk 2 (pc' := 106) (ls' := [some (.ref 53), some (.int (nI r)), some (.int 0), some (.int (nI i)), some (.int (nI k)), l5, l6, l7]) (sk' := [.int 8, .int (nI k)]) (st' := s0) (fun _ h => h) ?_
        refine w_div rfl (by decide) ?_
        rw [show ((nI k) / 8) = nI (k / 8) from pk_div (a := k) (d := 8) (by omega) (by omega) (by omega)]
        refine w_blk 3 (pc' := 113) (ls' := [some (.ref 53), some (.int (nI r)), some (.int 0), some (.int (nI i)), some (.int (nI k)), some (.int (nI (k / 8))), l6, l7]) (sk' := [.int 8, .int (nI k)]) (st' := s0) (fun _ h => h) ?_
        refine w_rem rfl (by decide) ?_
        rw [show ((nI k) - (nI k) / 8 * 8) = nI (k % 8) from pk_rem (a := k) (d := 8) (by omega) (by omega) (by omega)]
        refine w_blk 4 (pc' := 120) (ls' := [some (.ref 53), some (.int (nI r)), some (.int 0), some (.int (nI i)), some (.int (nI k)), some (.int (nI (k / 8))), some (.int (nI (k % 8))), l7]) (sk' := [.int 0, .int (nI k), .ref 53]) (st' := s0) (fun _ h => h) ?_
        refine w_callV (As := [.ref 53, .int (nI k), .int 0]) (rest := []) rfl rfl rfl (Nat.le_of_ble_eq_true rfl) (Nat.le_of_ble_eq_true rfl) (by first | exact Or.inl ⟨rfl, rfl⟩ | exact Or.inr ⟨rfl, rfl⟩) (m_weight0 (d + 0) k s0 (by omega)) ?_
        refine w_blk 4 (pc' := 131) (ls' := [some (.ref 53), some (.int (nI r)), some (.int 0), some (.int (nI i)), some (.int (nI k)), some (.int (nI (k / 8))), some (.int (nI (k % 8))), some (.int ((s0.1 56 (k / 8)) * (s0.1 60 (k % 8))))]) (sk' := [.int (nI k), .ref 67]) (st' := s0) (fun _ h => h) ?_
        refine w_bald2 rfl rfl (vp_in_nI (n := k) (N := 48) (by omega) (by decide)) ?_
        rw [nI_clamp (show k < 2 ^ 31 by omega)]
        rw [hE1 k (by omega)]
        refine w_if_eq rfl (fun he => ?_) (fun he => ?_)
        · replace he := pI_eq0.mp he
          have ht : ¬ T (k / 8) (k % 8) = true := fun e => he (hTE _ _ hd6 hs8 e)
          refine w_blk 3 (pc' := 209) (ls' := [some (.ref 53), some (.int (nI r)), some (.int 0), some (.int (nI i)), some (.int (nI k)), some (.int (nI (k / 8))), some (.int (nI (k % 8))), some (.int ((s0.1 56 (k / 8)) * (s0.1 60 (k % 8))))]) (sk' := [.int (nI k), .ref 68]) (st' := s0) (fun _ h => h) ?_
          refine w_bald2 rfl rfl (vp_in_nI (n := k) (N := 48) (by omega) (by decide)) ?_
          rw [nI_clamp (show k < 2 ^ 31 by omega)]
          rw [hT1 k (by omega)]
          refine w_if_eq rfl (fun _ => ?_) (fun hno => absurd (pI_f ht) hno)
          refine w_blk 1 (pc' := 274) (ls' := [some (.ref 53), some (.int (nI r)), some (.int 0), some (.int (nI i)), some (.int ((nI k) + 1)), some (.int (nI (k / 8))), some (.int (nI (k % 8))), some (.int ((s0.1 56 (k / 8)) * (s0.1 60 (k % 8))))]) (sk' := []) (st' := s0) (fun _ h => h) ?_
          rw [show ((nI k) + 1) = nI (k + 1) from nI_add k 1]
          refine w_blk 1 (pc' := 95) (ls' := [some (.ref 53), some (.int (nI r)), some (.int 0), some (.int (nI i)), some (.int (nI (k + 1))), some (.int (nI (k / 8))), some (.int (nI (k % 8))), some (.int ((s0.1 56 (k / 8)) * (s0.1 60 (k % 8))))]) (sk' := []) (st' := s0) (fun _ h => h) ?_
          exact ih2 (k + 1) x s0 _ _ _ (by omega) (by rw [rk_n ht he, ← hx]) hL hf
        · replace he := pI_ne.mp he
          obtain ⟨hdn, hsn⟩ := hEn _ _ hd6 hs8 he
          have hwv : ((s0.1 56 (k / 8)) * (s0.1 60 (k % 8))) = iI (wF n c false (k / 8) (k % 8)) := by
            rw [(hR1.2.2.2.1 (k / 8) hdn).1, (hR1.2.2.2.2.1 (k % 8) hsn).1, pk_mul]
            have e9 : wF n c false (k / 8) (k % 8) = ((c 0 (k / 8) * c 3 (k % 8) : Nat) : Int) := by
              unfold wF
              rw [if_neg Bool.false_ne_true, if_pos (show k / 8 < n 0 ∧ k % 8 < n 1 from ⟨hdn, hsn⟩)]
            rw [e9]
            rfl
          rw [hwv]
          refine w_blk 3 (pc' := 141) (ls' := [some (.ref 53), some (.int (nI r)), some (.int 0), some (.int (nI i)), some (.int (nI k)), some (.int (nI (k / 8))), some (.int (nI (k % 8))), some (.int (iI (wF n c false (k / 8) (k % 8))))]) (sk' := [.int (nI k), .ref 68]) (st' := s0) (fun _ h => h) ?_
          refine w_bald2 rfl rfl (vp_in_nI (n := k) (N := 48) (by omega) (by decide)) ?_
          rw [nI_clamp (show k < 2 ^ 31 by omega)]
          rw [hT1 k (by omega)]
          refine w_if_ne rfl (fun ht => ?_) (fun ht => ?_)
          · replace ht := pI_ne.mp ht
            refine w_blk 3 (pc' := 209) (ls' := [some (.ref 53), some (.int (nI r)), some (.int 0), some (.int (nI i)), some (.int (nI k)), some (.int (nI (k / 8))), some (.int (nI (k % 8))), some (.int (iI (wF n c false (k / 8) (k % 8))))]) (sk' := [.int (nI k), .ref 68]) (st' := s0) (fun _ h => h) ?_
            refine w_bald2 rfl rfl (vp_in_nI (n := k) (N := 48) (by omega) (by decide)) ?_
            rw [nI_clamp (show k < 2 ^ 31 by omega)]
            rw [hT1 k (by omega)]
            refine w_if_eq rfl (fun hno => absurd hno (fun e => (pI_eq0.mp e) ht)) (fun _ => ?_)
            refine w_blk 3 (pc' := 219) (ls' := [some (.ref 53), some (.int (nI r)), some (.int 0), some (.int (nI i)), some (.int (nI k)), some (.int (nI (k / 8))), some (.int (nI (k % 8))), some (.int (iI (wF n c false (k / 8) (k % 8))))]) (sk' := [.int (nI (k % 8)), .ref 72]) (st' := s0) (fun _ h => h) ?_
            refine w_iald rfl rfl (vp_in_nI (n := (k % 8)) (N := 8) (by omega) (by decide)) ?_
            rw [nI_clamp (show (k % 8) < 2 ^ 31 by omega)]
            rw [(hL.2 (k % 8) (by omega)).1]
            refine w_ldcN rfl ?_
            show mW (mMC mT (d + 1)) (0, fun _ => 0) (mAtL P_X10_findWays) none Q 222 [some (.ref 53), some (.int (nI r)), some (.int 0), some (.int (nI i)), some (.int (nI k)), some (.int (nI (k / 8))), some (.int (nI (k % 8))), some (.int (iI (wF n c false (k / 8) (k % 8))))] [.int (iI NOi), .int (iI (x.1 (6 + k % 8)))] s0
            refine w_cmp_le rfl (fun h1 => ?_) (fun h1 => ?_)
            · replace h1 : x.1 (6 + k % 8) ≤ NOi := by exact (iI_le (a := x.1 (6 + k % 8)) (b := NOi) (by omega) (by omega) (by omega) (by omega)).mp h1
              refine w_blk 1 (pc' := 274) (ls' := [some (.ref 53), some (.int (nI r)), some (.int 0), some (.int (nI i)), some (.int ((nI k) + 1)), some (.int (nI (k / 8))), some (.int (nI (k % 8))), some (.int (iI (wF n c false (k / 8) (k % 8))))]) (sk' := []) (st' := s0) (fun _ h => h) ?_
              rw [show ((nI k) + 1) = nI (k + 1) from nI_add k 1]
              refine w_blk 1 (pc' := 95) (ls' := [some (.ref 53), some (.int (nI r)), some (.int 0), some (.int (nI i)), some (.int (nI (k + 1))), some (.int (nI (k / 8))), some (.int (nI (k % 8))), some (.int (iI (wF n c false (k / 8) (k % 8))))]) (sk' := []) (st' := s0) (fun _ h => h) ?_
              exact ih2 (k + 1) x s0 _ _ _ (by omega) (by rw [rk_t ht, ← hx]; exact (if_neg (fun hh => hh.1 (by omega))).symm) hL hf
            · replace h1 : ¬ (x.1 (6 + k % 8) ≤ NOi) := fun hh => h1 (by exact (iI_le (a := x.1 (6 + k % 8)) (b := NOi) (by omega) (by omega) (by omega) (by omega)).mpr hh)
              refine w_blk 3 (pc' := 231) (ls' := [some (.ref 53), some (.int (nI r)), some (.int 0), some (.int (nI i)), some (.int (nI k)), some (.int (nI (k / 8))), some (.int (nI (k % 8))), some (.int (iI (wF n c false (k / 8) (k % 8))))]) (sk' := [.int (nI (k % 8)), .ref 72]) (st' := s0) (fun _ h => h) ?_
              refine w_iald rfl rfl (vp_in_nI (n := (k % 8)) (N := 8) (by omega) (by decide)) ?_
              rw [nI_clamp (show (k % 8) < 2 ^ 31 by omega)]
              rw [(hL.2 (k % 8) (by omega)).1]
              refine w_blk 2 (pc' := 235) (ls' := [some (.ref 53), some (.int (nI r)), some (.int 0), some (.int (nI i)), some (.int (nI k)), some (.int (nI (k / 8))), some (.int (nI (k % 8))), some (.int (iI (wF n c false (k / 8) (k % 8))))]) (sk' := [.int ((iI (x.1 (6 + k % 8))) - (iI (wF n c false (k / 8) (k % 8))))]) (st' := s0) (fun _ h => h) ?_
              rw [show ((iI (x.1 (6 + k % 8))) - (iI (wF n c false (k / 8) (k % 8)))) = iI ((x.1 (6 + k % 8)) - (wF n c false (k / 8) (k % 8))) from iI_sub _ _]
              refine w_blk 3 (pc' := 241) (ls' := [some (.ref 53), some (.int (nI r)), some (.int 0), some (.int (nI i)), some (.int (nI k)), some (.int (nI (k / 8))), some (.int (nI (k % 8))), some (.int (iI (wF n c false (k / 8) (k % 8))))]) (sk' := [.int (nI (k / 8)), .ref 71, .int (iI ((x.1 (6 + k % 8)) - (wF n c false (k / 8) (k % 8))))]) (st' := s0) (fun _ h => h) ?_
              refine w_iald rfl rfl (vp_in_nI (n := (k / 8)) (N := 6) (by omega) (by decide)) ?_
              rw [nI_clamp (show (k / 8) < 2 ^ 31 by omega)]
              rw [(hL.1 (k / 8) (by omega)).1]
              refine w_cmp_le rfl (fun h2 => ?_) (fun h2 => ?_)
              · replace h2 : (x.1 (6 + k % 8)) - (wF n c false (k / 8) (k % 8)) ≤ x.1 (k / 8) := by exact (iI_le (a := (x.1 (6 + k % 8)) - (wF n c false (k / 8) (k % 8))) (b := x.1 (k / 8)) (by omega) (by omega) (by omega) (by omega)).mp h2
                refine w_blk 1 (pc' := 274) (ls' := [some (.ref 53), some (.int (nI r)), some (.int 0), some (.int (nI i)), some (.int ((nI k) + 1)), some (.int (nI (k / 8))), some (.int (nI (k % 8))), some (.int (iI (wF n c false (k / 8) (k % 8))))]) (sk' := []) (st' := s0) (fun _ h => h) ?_
                rw [show ((nI k) + 1) = nI (k + 1) from nI_add k 1]
                refine w_blk 1 (pc' := 95) (ls' := [some (.ref 53), some (.int (nI r)), some (.int 0), some (.int (nI i)), some (.int (nI (k + 1))), some (.int (nI (k / 8))), some (.int (nI (k % 8))), some (.int (iI (wF n c false (k / 8) (k % 8))))]) (sk' := []) (st' := s0) (fun _ h => h) ?_
                exact ih2 (k + 1) x s0 _ _ _ (by omega) (by rw [rk_t ht, ← hx]; exact (if_neg (fun hh => by have := hh.2; omega)).symm) hL hf
              · replace h2 : ¬ ((x.1 (6 + k % 8)) - (wF n c false (k / 8) (k % 8)) ≤ x.1 (k / 8)) := fun hh => h2 (by exact (iI_le (a := (x.1 (6 + k % 8)) - (wF n c false (k / 8) (k % 8))) (b := x.1 (k / 8)) (by omega) (by omega) (by omega) (by omega)).mpr hh)
                refine w_blk 6 (pc' := 257) (ls' := [some (.ref 53), some (.int (nI r)), some (.int 0), some (.int (nI i)), some (.int (nI k)), some (.int (nI (k / 8))), some (.int (nI (k % 8))), some (.int (iI (wF n c false (k / 8) (k % 8))))]) (sk' := [.int (nI (k % 8)), .ref 72, .int (nI (k / 8)), .ref 71]) (st' := s0) (fun _ h => h) ?_
                refine w_iald rfl rfl (vp_in_nI (n := (k % 8)) (N := 8) (by omega) (by decide)) ?_
                rw [nI_clamp (show (k % 8) < 2 ^ 31 by omega)]
                rw [(hL.2 (k % 8) (by omega)).1]
                refine w_blk 2 (pc' := 261) (ls' := [some (.ref 53), some (.int (nI r)), some (.int 0), some (.int (nI i)), some (.int (nI k)), some (.int (nI (k / 8))), some (.int (nI (k % 8))), some (.int (iI (wF n c false (k / 8) (k % 8))))]) (sk' := [.int ((iI (x.1 (6 + k % 8))) - (iI (wF n c false (k / 8) (k % 8)))), .int (nI (k / 8)), .ref 71]) (st' := s0) (fun _ h => h) ?_
                rw [show ((iI (x.1 (6 + k % 8))) - (iI (wF n c false (k / 8) (k % 8)))) = iI ((x.1 (6 + k % 8)) - (wF n c false (k / 8) (k % 8))) from iI_sub _ _]
                refine w_iast rfl rfl (vp_in_nI (n := (k / 8)) (N := 6) (by omega) (by decide)) ?_
                rw [nI_clamp (show (k / 8) < 2 ^ 31 by omega)]
                refine w_blk 4 (pc' := 270) (ls' := [some (.ref 53), some (.int (nI r)), some (.int 0), some (.int (nI i)), some (.int (nI k)), some (.int (nI (k / 8))), some (.int (nI (k % 8))), some (.int (iI (wF n c false (k / 8) (k % 8))))]) (sk' := [.int (nI (k % 8)), .int (nI (k / 8)), .ref 73]) (st' := ((mU s0.1 71 (k / 8) (iI ((x.1 (6 + k % 8)) - (wF n c false (k / 8) (k % 8))))), s0.2)) (fun _ h => h) ?_
                refine w_iast rfl rfl (vp_in_nI (n := (k / 8)) (N := 6) (by omega) (by decide)) ?_
                rw [nI_clamp (show (k / 8) < 2 ^ 31 by omega)]
                refine w_blk 1 (pc' := 274) (ls' := [some (.ref 53), some (.int (nI r)), some (.int 0), some (.int (nI i)), some (.int ((nI k) + 1)), some (.int (nI (k / 8))), some (.int (nI (k % 8))), some (.int (iI (wF n c false (k / 8) (k % 8))))]) (sk' := []) (st' := ((mU (mU s0.1 71 (k / 8) (iI ((x.1 (6 + k % 8)) - (wF n c false (k / 8) (k % 8))))) 73 (k / 8) (nI (k % 8))), s0.2)) (fun _ h => h) ?_
                rw [show ((nI k) + 1) = nI (k + 1) from nI_add k 1]
                refine w_blk 1 (pc' := 95) (ls' := [some (.ref 53), some (.int (nI r)), some (.int 0), some (.int (nI i)), some (.int (nI (k + 1))), some (.int (nI (k / 8))), some (.int (nI (k % 8))), some (.int (iI (wF n c false (k / 8) (k % 8))))]) (sk' := []) (st' := ((mU (mU s0.1 71 (k / 8) (iI ((x.1 (6 + k % 8)) - (wF n c false (k / 8) (k % 8))))) 73 (k / 8) (nI (k % 8))), s0.2)) (fun _ h => h) ?_
                exact ih2 (k + 1) (upI x.1 (k / 8) (x.1 (6 + k % 8) - (wF n c false (k / 8) (k % 8))), updN x.2 (k / 8) (6 + k % 8)) ((mU (mU s0.1 71 (k / 8) (iI ((x.1 (6 + k % 8)) - (wF n c false (k / 8) (k % 8))))) 73 (k / 8) (nI (k % 8))), s0.2) _ _ _ (by omega) (by rw [rk_t ht, ← hx]; refine Eq.trans ?_ (if_pos ⟨by omega, by omega⟩).symm; rw [Int.sub_eq_add_neg]) (MLb_D hL hd6 hs8) (Fr.trans (Fr.trans hf (Fr.mU (by decide))) (Fr.mU (by decide)))
          · replace ht := pI_eq0.mp (Decidable.not_not.mp ht)
            refine w_blk 3 (pc' := 151) (ls' := [some (.ref 53), some (.int (nI r)), some (.int 0), some (.int (nI i)), some (.int (nI k)), some (.int (nI (k / 8))), some (.int (nI (k % 8))), some (.int (iI (wF n c false (k / 8) (k % 8))))]) (sk' := [.int (nI (k / 8)), .ref 71]) (st' := s0) (fun _ h => h) ?_
            refine w_iald rfl rfl (vp_in_nI (n := (k / 8)) (N := 6) (by omega) (by decide)) ?_
            rw [nI_clamp (show (k / 8) < 2 ^ 31 by omega)]
            rw [(hL.1 (k / 8) (by omega)).1]
            refine w_ldcN rfl ?_
            show mW (mMC mT (d + 1)) (0, fun _ => 0) (mAtL P_X10_findWays) none Q 154 [some (.ref 53), some (.int (nI r)), some (.int 0), some (.int (nI i)), some (.int (nI k)), some (.int (nI (k / 8))), some (.int (nI (k % 8))), some (.int (iI (wF n c false (k / 8) (k % 8))))] [.int (iI NOi), .int (iI (x.1 (k / 8)))] s0
            refine w_cmp_le rfl (fun h1 => ?_) (fun h1 => ?_)
            · replace h1 : x.1 (k / 8) ≤ NOi := by exact (iI_le (a := x.1 (k / 8)) (b := NOi) (by omega) (by omega) (by omega) (by omega)).mp h1
              refine w_blk 3 (pc' := 209) (ls' := [some (.ref 53), some (.int (nI r)), some (.int 0), some (.int (nI i)), some (.int (nI k)), some (.int (nI (k / 8))), some (.int (nI (k % 8))), some (.int (iI (wF n c false (k / 8) (k % 8))))]) (sk' := [.int (nI k), .ref 68]) (st' := s0) (fun _ h => h) ?_
              refine w_bald2 rfl rfl (vp_in_nI (n := k) (N := 48) (by omega) (by decide)) ?_
              rw [nI_clamp (show k < 2 ^ 31 by omega)]
              rw [hT1 k (by omega)]
              refine w_if_eq rfl (fun _ => ?_) (fun hno => absurd (pI_f ht) hno)
              refine w_blk 1 (pc' := 274) (ls' := [some (.ref 53), some (.int (nI r)), some (.int 0), some (.int (nI i)), some (.int ((nI k) + 1)), some (.int (nI (k / 8))), some (.int (nI (k % 8))), some (.int (iI (wF n c false (k / 8) (k % 8))))]) (sk' := []) (st' := s0) (fun _ h => h) ?_
              rw [show ((nI k) + 1) = nI (k + 1) from nI_add k 1]
              refine w_blk 1 (pc' := 95) (ls' := [some (.ref 53), some (.int (nI r)), some (.int 0), some (.int (nI i)), some (.int (nI (k + 1))), some (.int (nI (k / 8))), some (.int (nI (k % 8))), some (.int (iI (wF n c false (k / 8) (k % 8))))]) (sk' := []) (st' := s0) (fun _ h => h) ?_
              exact ih2 (k + 1) x s0 _ _ _ (by omega) (by rw [rk_e ht he, ← hx]; exact (if_neg (fun hh => hh.1 (by omega))).symm) hL hf
            · replace h1 : ¬ (x.1 (k / 8) ≤ NOi) := fun hh => h1 (by exact (iI_le (a := x.1 (k / 8)) (b := NOi) (by omega) (by omega) (by omega) (by omega)).mpr hh)
              refine w_blk 3 (pc' := 163) (ls' := [some (.ref 53), some (.int (nI r)), some (.int 0), some (.int (nI i)), some (.int (nI k)), some (.int (nI (k / 8))), some (.int (nI (k % 8))), some (.int (iI (wF n c false (k / 8) (k % 8))))]) (sk' := [.int (nI (k / 8)), .ref 71]) (st' := s0) (fun _ h => h) ?_
              refine w_iald rfl rfl (vp_in_nI (n := (k / 8)) (N := 6) (by omega) (by decide)) ?_
              rw [nI_clamp (show (k / 8) < 2 ^ 31 by omega)]
              rw [(hL.1 (k / 8) (by omega)).1]
              refine w_blk 2 (pc' := 167) (ls' := [some (.ref 53), some (.int (nI r)), some (.int 0), some (.int (nI i)), some (.int (nI k)), some (.int (nI (k / 8))), some (.int (nI (k % 8))), some (.int (iI (wF n c false (k / 8) (k % 8))))]) (sk' := [.int ((iI (x.1 (k / 8))) + (iI (wF n c false (k / 8) (k % 8))))]) (st' := s0) (fun _ h => h) ?_
              rw [show ((iI (x.1 (k / 8))) + (iI (wF n c false (k / 8) (k % 8)))) = iI ((x.1 (k / 8)) + (wF n c false (k / 8) (k % 8))) from iI_add _ _]
              refine w_blk 3 (pc' := 173) (ls' := [some (.ref 53), some (.int (nI r)), some (.int 0), some (.int (nI i)), some (.int (nI k)), some (.int (nI (k / 8))), some (.int (nI (k % 8))), some (.int (iI (wF n c false (k / 8) (k % 8))))]) (sk' := [.int (nI (k % 8)), .ref 72, .int (iI ((x.1 (k / 8)) + (wF n c false (k / 8) (k % 8))))]) (st' := s0) (fun _ h => h) ?_
              refine w_iald rfl rfl (vp_in_nI (n := (k % 8)) (N := 8) (by omega) (by decide)) ?_
              rw [nI_clamp (show (k % 8) < 2 ^ 31 by omega)]
              rw [(hL.2 (k % 8) (by omega)).1]
              refine w_cmp_le rfl (fun h2 => ?_) (fun h2 => ?_)
              · replace h2 : (x.1 (k / 8)) + (wF n c false (k / 8) (k % 8)) ≤ x.1 (6 + k % 8) := by exact (iI_le (a := (x.1 (k / 8)) + (wF n c false (k / 8) (k % 8))) (b := x.1 (6 + k % 8)) (by omega) (by omega) (by omega) (by omega)).mp h2
                refine w_blk 3 (pc' := 209) (ls' := [some (.ref 53), some (.int (nI r)), some (.int 0), some (.int (nI i)), some (.int (nI k)), some (.int (nI (k / 8))), some (.int (nI (k % 8))), some (.int (iI (wF n c false (k / 8) (k % 8))))]) (sk' := [.int (nI k), .ref 68]) (st' := s0) (fun _ h => h) ?_
                refine w_bald2 rfl rfl (vp_in_nI (n := k) (N := 48) (by omega) (by decide)) ?_
                rw [nI_clamp (show k < 2 ^ 31 by omega)]
                rw [hT1 k (by omega)]
                refine w_if_eq rfl (fun _ => ?_) (fun hno => absurd (pI_f ht) hno)
                refine w_blk 1 (pc' := 274) (ls' := [some (.ref 53), some (.int (nI r)), some (.int 0), some (.int (nI i)), some (.int ((nI k) + 1)), some (.int (nI (k / 8))), some (.int (nI (k % 8))), some (.int (iI (wF n c false (k / 8) (k % 8))))]) (sk' := []) (st' := s0) (fun _ h => h) ?_
                rw [show ((nI k) + 1) = nI (k + 1) from nI_add k 1]
                refine w_blk 1 (pc' := 95) (ls' := [some (.ref 53), some (.int (nI r)), some (.int 0), some (.int (nI i)), some (.int (nI (k + 1))), some (.int (nI (k / 8))), some (.int (nI (k % 8))), some (.int (iI (wF n c false (k / 8) (k % 8))))]) (sk' := []) (st' := s0) (fun _ h => h) ?_
                exact ih2 (k + 1) x s0 _ _ _ (by omega) (by rw [rk_e ht he, ← hx]; exact (if_neg (fun hh => by have := hh.2; omega)).symm) hL hf
              · replace h2 : ¬ ((x.1 (k / 8)) + (wF n c false (k / 8) (k % 8)) ≤ x.1 (6 + k % 8)) := fun hh => h2 (by exact (iI_le (a := (x.1 (k / 8)) + (wF n c false (k / 8) (k % 8))) (b := x.1 (6 + k % 8)) (by omega) (by omega) (by omega) (by omega)).mpr hh)
                refine w_blk 6 (pc' := 189) (ls' := [some (.ref 53), some (.int (nI r)), some (.int 0), some (.int (nI i)), some (.int (nI k)), some (.int (nI (k / 8))), some (.int (nI (k % 8))), some (.int (iI (wF n c false (k / 8) (k % 8))))]) (sk' := [.int (nI (k / 8)), .ref 71, .int (nI (k % 8)), .ref 72]) (st' := s0) (fun _ h => h) ?_
                refine w_iald rfl rfl (vp_in_nI (n := (k / 8)) (N := 6) (by omega) (by decide)) ?_
                rw [nI_clamp (show (k / 8) < 2 ^ 31 by omega)]
                rw [(hL.1 (k / 8) (by omega)).1]
                refine w_blk 2 (pc' := 193) (ls' := [some (.ref 53), some (.int (nI r)), some (.int 0), some (.int (nI i)), some (.int (nI k)), some (.int (nI (k / 8))), some (.int (nI (k % 8))), some (.int (iI (wF n c false (k / 8) (k % 8))))]) (sk' := [.int ((iI (x.1 (k / 8))) + (iI (wF n c false (k / 8) (k % 8)))), .int (nI (k % 8)), .ref 72]) (st' := s0) (fun _ h => h) ?_
                rw [show ((iI (x.1 (k / 8))) + (iI (wF n c false (k / 8) (k % 8)))) = iI ((x.1 (k / 8)) + (wF n c false (k / 8) (k % 8))) from iI_add _ _]
                refine w_iast rfl rfl (vp_in_nI (n := (k % 8)) (N := 8) (by omega) (by decide)) ?_
                rw [nI_clamp (show (k % 8) < 2 ^ 31 by omega)]
                refine w_blk 4 (pc' := 202) (ls' := [some (.ref 53), some (.int (nI r)), some (.int 0), some (.int (nI i)), some (.int (nI k)), some (.int (nI (k / 8))), some (.int (nI (k % 8))), some (.int (iI (wF n c false (k / 8) (k % 8))))]) (sk' := [.int (nI (k / 8)), .int (nI (k % 8)), .ref 74]) (st' := ((mU s0.1 72 (k % 8) (iI ((x.1 (k / 8)) + (wF n c false (k / 8) (k % 8))))), s0.2)) (fun _ h => h) ?_
                refine w_iast rfl rfl (vp_in_nI (n := (k % 8)) (N := 8) (by omega) (by decide)) ?_
                rw [nI_clamp (show (k % 8) < 2 ^ 31 by omega)]
                refine w_blk 3 (pc' := 209) (ls' := [some (.ref 53), some (.int (nI r)), some (.int 0), some (.int (nI i)), some (.int (nI k)), some (.int (nI (k / 8))), some (.int (nI (k % 8))), some (.int (iI (wF n c false (k / 8) (k % 8))))]) (sk' := [.int (nI k), .ref 68]) (st' := ((mU (mU s0.1 72 (k % 8) (iI ((x.1 (k / 8)) + (wF n c false (k / 8) (k % 8))))) 74 (k % 8) (nI (k / 8))), s0.2)) (fun _ h => h) ?_
                refine w_bald2 rfl rfl (vp_in_nI (n := k) (N := 48) (by omega) (by decide)) ?_
                rw [nI_clamp (show k < 2 ^ 31 by omega)]
                show mW (mMC mT (d + 1)) (0, fun _ => 0) (mAtL P_X10_findWays) none Q 210 [some (.ref 53), some (.int (nI r)), some (.int 0), some (.int (nI i)), some (.int (nI k)), some (.int (nI (k / 8))), some (.int (nI (k % 8))), some (.int (iI (wF n c false (k / 8) (k % 8))))] [.int (s0.1 68 k)] ((mU (mU s0.1 72 (k % 8) (iI ((x.1 (k / 8)) + (wF n c false (k / 8) (k % 8))))) 74 (k % 8) (nI (k / 8))), s0.2)
                rw [hT1 k (by omega)]
                refine w_if_eq rfl (fun _ => ?_) (fun hno => absurd (pI_f ht) hno)
                refine w_blk 1 (pc' := 274) (ls' := [some (.ref 53), some (.int (nI r)), some (.int 0), some (.int (nI i)), some (.int ((nI k) + 1)), some (.int (nI (k / 8))), some (.int (nI (k % 8))), some (.int (iI (wF n c false (k / 8) (k % 8))))]) (sk' := []) (st' := ((mU (mU s0.1 72 (k % 8) (iI ((x.1 (k / 8)) + (wF n c false (k / 8) (k % 8))))) 74 (k % 8) (nI (k / 8))), s0.2)) (fun _ h => h) ?_
                rw [show ((nI k) + 1) = nI (k + 1) from nI_add k 1]
                refine w_blk 1 (pc' := 95) (ls' := [some (.ref 53), some (.int (nI r)), some (.int 0), some (.int (nI i)), some (.int (nI (k + 1))), some (.int (nI (k / 8))), some (.int (nI (k % 8))), some (.int (iI (wF n c false (k / 8) (k % 8))))]) (sk' := []) (st' := ((mU (mU s0.1 72 (k % 8) (iI ((x.1 (k / 8)) + (wF n c false (k / 8) (k % 8))))) 74 (k % 8) (nI (k / 8))), s0.2)) (fun _ h => h) ?_
                exact ih2 (k + 1) (upI x.1 (6 + k % 8) (x.1 (k / 8) + (wF n c false (k / 8) (k % 8))), updN x.2 (6 + k % 8) (k / 8)) ((mU (mU s0.1 72 (k % 8) (iI ((x.1 (k / 8)) + (wF n c false (k / 8) (k % 8))))) 74 (k % 8) (nI (k / 8))), s0.2) _ _ _ (by omega) (by rw [rk_e ht he, ← hx]; exact (if_pos ⟨by omega, by omega⟩).symm) (MLb_S hL hd6) (Fr.trans (Fr.trans hf (Fr.mU (by decide))) (Fr.mU (by decide)))
  have bs : ∀ (m k : Nat) (s0 : mSt), k + m = 8 → Fr [71, 72, 73, 74] st s0 → (∀ d, d < 6 → s0.1 71 d = iI ((ini T r (n 0)).1 d) ∧ s0.1 73 d = -9) → (∀ j, j < k → s0.1 72 j = iI NOi ∧ s0.1 74 j = -9) → mW (mMC mT (d + 1)) (0, fun _ => 0) (mAtL P_X10_findWays) none Q 56 [some (.ref 53), some (.int (nI r)), some (.int 0), some (.int (nI k)), none, none, none, none] [] s0 := by
    intro m
    induction m with
    | zero =>
      intro k s0 hk hf hd hz
      obtain rfl : k = 8 := by omega
      refine w_blk 2 (pc' := 59) (ls' := [some (.ref 53), some (.int (nI r)), some (.int 0), some (.int (nI 8)), none, none, none, none]) (sk' := [.int 8, .int (nI 8)]) (st' := s0) (fun _ h => h) ?_
      refine w_cmp_ge rfl (fun _ => ?_) (fun hno => absurd (Int32.le_refl _) hno)
      refine w_blk 2 (pc' := 86) (ls' := [some (.ref 53), some (.int (nI r)), some (.int 0), some (.int 0), none, none, none, none]) (sk' := []) (st' := s0) (fun _ h => h) ?_
      exact turns 16 0 s0 _ _ _ _ (by omega) ⟨fun d h6 => ⟨(hd d h6).1, (hd d h6).2⟩, fun s h8 => ⟨(hz s h8).1.trans (congrArg iI (show NOi = (ini T r (n 0)).1 (6 + s) from (if_neg (by omega)).symm)), (hz s h8).2⟩⟩ hf
    | succ m ih =>
      intro k s0 hk hf hd hz
      refine w_blk 2 (pc' := 59) (ls' := [some (.ref 53), some (.int (nI r)), some (.int 0), some (.int (nI k)), none, none, none, none]) (sk' := [.int 8, .int (nI k)]) (st' := s0) (fun _ h => h) ?_
      refine w_cmp_ge rfl (fun hno => absurd hno (nI_ge (a := k) (b := 8) (by omega) (by omega))) (fun _ => ?_)
      refine w_blk 3 (pc' := 67) (ls' := [some (.ref 53), some (.int (nI r)), some (.int 0), some (.int (nI k)), none, none, none, none]) (sk' := [.int (nI k), .ref 72]) (st' := s0) (fun _ h => h) ?_
      refine w_ldcN rfl ?_
      show mW (mMC mT (d + 1)) (0, fun _ => 0) (mAtL P_X10_findWays) none Q 69 [some (.ref 53), some (.int (nI r)), some (.int 0), some (.int (nI k)), none, none, none, none] [.int (iI NOi), .int (nI k), .ref 72] s0
      refine w_iast rfl rfl (vp_in_nI (n := k) (N := 8) (by omega) (by decide)) ?_
      rw [nI_clamp (show k < 2 ^ 31 by omega)]
      refine w_blk 4 (pc' := 77) (ls' := [some (.ref 53), some (.int (nI r)), some (.int 0), some (.int (nI k)), none, none, none, none]) (sk' := [.int (-9), .int (nI k), .ref 74]) (st' := ((mU s0.1 72 k (iI NOi)), s0.2)) (fun _ h => h) ?_
      refine w_iast rfl rfl (vp_in_nI (n := k) (N := 8) (by omega) (by decide)) ?_
      rw [nI_clamp (show k < 2 ^ 31 by omega)]
      refine w_blk 1 (pc' := 81) (ls' := [some (.ref 53), some (.int (nI r)), some (.int 0), some (.int ((nI k) + 1)), none, none, none, none]) (sk' := []) (st' := ((mU (mU s0.1 72 k (iI NOi)) 74 k (-9)), s0.2)) (fun _ h => h) ?_
      rw [show ((nI k) + 1) = nI (k + 1) from nI_add k 1]
      refine w_blk 1 (pc' := 56) (ls' := [some (.ref 53), some (.int (nI r)), some (.int 0), some (.int (nI (k + 1))), none, none, none, none]) (sk' := []) (st' := ((mU (mU s0.1 72 k (iI NOi)) 74 k (-9)), s0.2)) (fun _ h => h) ?_
      exact ih (k + 1) ((mU (mU s0.1 72 k (iI NOi)) 74 k (-9)), s0.2) (by omega) (Fr.trans (Fr.trans hf (Fr.mU (by decide))) (Fr.mU (by decide))) hd (fun j hj => if ej : j = k then (by rw [ej]; exact ⟨(two_a (f := s0.1) (p := 72) (q := 74) (k := k) (x := iI NOi) (y := -9) (by decide)), two_b (f := s0.1) (p := 72) (q := 74) (k := k) (x := iI NOi) (y := -9)⟩) else ⟨(two_c (f := s0.1) (p := 72) (q := 74) (k := k) (x := iI NOi) (y := -9) (by decide) ej).trans (hz j (by omega)).1, (two_d (f := s0.1) (p := 72) (q := 74) (k := k) (x := iI NOi) (y := -9) (by decide) ej).trans (hz j (by omega)).2⟩)
  suffices bd : ∀ (m k : Nat) (s0 : mSt), k + m = 6 → Fr [71, 72, 73, 74] st s0 → (∀ d, d < k → s0.1 71 d = iI ((ini T r (n 0)).1 d) ∧ s0.1 73 d = -9) → mW (mMC mT (d + 1)) (0, fun _ => 0) (mAtL P_X10_findWays) none Q 2 [some (.ref 53), some (.int (nI r)), some (.int 0), some (.int (nI k)), none, none, none, none] [] s0 from bd 6 0 st (by omega) Fr.rf (fun j hj => absurd hj (by omega))
  intro m
  induction m with
  | zero =>
    intro k s0 hk hf hz
    obtain rfl : k = 6 := by omega
    refine w_blk 2 (pc' := 5) (ls' := [some (.ref 53), some (.int (nI r)), some (.int 0), some (.int (nI 6)), none, none, none, none]) (sk' := [.int 6, .int (nI 6)]) (st' := s0) (fun _ h => h) ?_
    refine w_cmp_ge rfl (fun _ => ?_) (fun hno => absurd (Int32.le_refl _) hno)
    refine w_blk 2 (pc' := 56) (ls' := [some (.ref 53), some (.int (nI r)), some (.int 0), some (.int 0), none, none, none, none]) (sk' := []) (st' := s0) (fun _ h => h) ?_
    exact bs 8 0 s0 (by omega) hf hz (fun j hj => absurd hj (by omega))
  | succ m ih =>
    intro k s0 hk hf hz
    have hR1 : MR s0 n c := MR_fr hf (by decide) hR
    have hH1 : MHd s0 T := MHd_e (hf.1 69 (by decide)) (hf.1 70 (by decide)) hH
    have hdk := dD_8 T k
    refine w_blk 2 (pc' := 5) (ls' := [some (.ref 53), some (.int (nI r)), some (.int 0), some (.int (nI k)), none, none, none, none]) (sk' := [.int 6, .int (nI k)]) (st' := s0) (fun _ h => h) ?_
    refine w_cmp_ge rfl (fun hno => absurd hno (nI_ge (a := k) (b := 6) (by omega) (by omega))) (fun _ => ?_)
    refine w_blk 7 (pc' := 19) (ls' := [some (.ref 53), some (.int (nI r)), some (.int 0), some (.int (nI k)), none, none, none, none]) (sk' := [.int 0, .ref 55, .int (nI k), .int (nI k), .ref 71]) (st' := s0) (fun _ h => h) ?_
    refine w_iald rfl rfl (vp_in_nI (n := 0) (N := 2) (by decide) (by decide)) ?_
    rw [show Int32.toNatClampNeg (0 : Int32) = 0 from rfl]
    rw [hR1.1]
    refine w_cmp_ge rfl (fun h1 => ?_) (fun h1 => ?_)
    · replace h1 : n 0 ≤ k := (nI_leI (a := (n 0)) (b := k) (by omega) (by omega)).mp h1
      refine w_ldcN rfl ?_
      show mW (mMC mT (d + 1)) (0, fun _ => 0) (mAtL P_X10_findWays) none Q 39 [some (.ref 53), some (.int (nI r)), some (.int 0), some (.int (nI k)), none, none, none, none] [.int (iI NOi), .int (nI k), .ref 71] s0
      refine w_iast rfl rfl (vp_in_nI (n := k) (N := 6) (by omega) (by decide)) ?_
      rw [nI_clamp (show k < 2 ^ 31 by omega)]
      refine w_blk 4 (pc' := 47) (ls' := [some (.ref 53), some (.int (nI r)), some (.int 0), some (.int (nI k)), none, none, none, none]) (sk' := [.int (-9), .int (nI k), .ref 73]) (st' := ((mU s0.1 71 k (iI NOi)), s0.2)) (fun _ h => h) ?_
      refine w_iast rfl rfl (vp_in_nI (n := k) (N := 6) (by omega) (by decide)) ?_
      rw [nI_clamp (show k < 2 ^ 31 by omega)]
      refine w_blk 1 (pc' := 51) (ls' := [some (.ref 53), some (.int (nI r)), some (.int 0), some (.int ((nI k) + 1)), none, none, none, none]) (sk' := []) (st' := ((mU (mU s0.1 71 k (iI NOi)) 73 k (-9)), s0.2)) (fun _ h => h) ?_
      rw [show ((nI k) + 1) = nI (k + 1) from nI_add k 1]
      refine w_blk 1 (pc' := 2) (ls' := [some (.ref 53), some (.int (nI r)), some (.int 0), some (.int (nI (k + 1))), none, none, none, none]) (sk' := []) (st' := ((mU (mU s0.1 71 k (iI NOi)) 73 k (-9)), s0.2)) (fun _ h => h) ?_
      exact ih (k + 1) ((mU (mU s0.1 71 k (iI NOi)) 73 k (-9)), s0.2) (by omega) (Fr.trans (Fr.trans hf (Fr.mU (by decide))) (Fr.mU (by decide))) (fun j hj => if ej : j = k then (by rw [ej]; exact ⟨(two_a (f := s0.1) (p := 71) (q := 73) (k := k) (x := iI NOi) (y := -9) (by decide)).trans (congrArg iI (show NOi = (ini T r (n 0)).1 k from (if_neg (fun hh => by omega)).symm)), two_b (f := s0.1) (p := 71) (q := 73) (k := k) (x := iI NOi) (y := -9)⟩) else ⟨(two_c (f := s0.1) (p := 71) (q := 73) (k := k) (x := iI NOi) (y := -9) (by decide) ej).trans (hz j (by omega)).1, (two_d (f := s0.1) (p := 71) (q := 73) (k := k) (x := iI NOi) (y := -9) (by decide) ej).trans (hz j (by omega)).2⟩)
    · replace h1 : ¬ (n 0 ≤ k) := fun hh => h1 ((nI_leI (a := (n 0)) (b := k) (by omega) (by omega)).mpr hh)
      refine w_blk 3 (pc' := 28) (ls' := [some (.ref 53), some (.int (nI r)), some (.int 0), some (.int (nI k)), none, none, none, none]) (sk' := [.int (nI k), .ref 69, .int (nI k), .ref 71]) (st' := s0) (fun _ h => h) ?_
      refine w_iald rfl rfl (vp_in_nI (n := k) (N := 6) (by omega) (by decide)) ?_
      rw [nI_clamp (show k < 2 ^ 31 by omega)]
      rw [hH1.1 k (by omega)]
      refine w_blk 1 (pc' := 30) (ls' := [some (.ref 53), some (.int (nI r)), some (.int 0), some (.int (nI k)), none, none, none, none]) (sk' := [.int (nI r), .int (nI (dD T k)), .int (nI k), .ref 71]) (st' := s0) (fun _ h => h) ?_
      refine w_cmp_ge rfl (fun h2 => ?_) (fun h2 => ?_)
      · replace h2 : r ≤ dD T k := (nI_leI (a := r) (b := (dD T k)) (by omega) (by omega)).mp h2
        refine w_ldcN rfl ?_
        show mW (mMC mT (d + 1)) (0, fun _ => 0) (mAtL P_X10_findWays) none Q 39 [some (.ref 53), some (.int (nI r)), some (.int 0), some (.int (nI k)), none, none, none, none] [.int (iI NOi), .int (nI k), .ref 71] s0
        refine w_iast rfl rfl (vp_in_nI (n := k) (N := 6) (by omega) (by decide)) ?_
        rw [nI_clamp (show k < 2 ^ 31 by omega)]
        refine w_blk 4 (pc' := 47) (ls' := [some (.ref 53), some (.int (nI r)), some (.int 0), some (.int (nI k)), none, none, none, none]) (sk' := [.int (-9), .int (nI k), .ref 73]) (st' := ((mU s0.1 71 k (iI NOi)), s0.2)) (fun _ h => h) ?_
        refine w_iast rfl rfl (vp_in_nI (n := k) (N := 6) (by omega) (by decide)) ?_
        rw [nI_clamp (show k < 2 ^ 31 by omega)]
        refine w_blk 1 (pc' := 51) (ls' := [some (.ref 53), some (.int (nI r)), some (.int 0), some (.int ((nI k) + 1)), none, none, none, none]) (sk' := []) (st' := ((mU (mU s0.1 71 k (iI NOi)) 73 k (-9)), s0.2)) (fun _ h => h) ?_
        rw [show ((nI k) + 1) = nI (k + 1) from nI_add k 1]
        refine w_blk 1 (pc' := 2) (ls' := [some (.ref 53), some (.int (nI r)), some (.int 0), some (.int (nI (k + 1))), none, none, none, none]) (sk' := []) (st' := ((mU (mU s0.1 71 k (iI NOi)) 73 k (-9)), s0.2)) (fun _ h => h) ?_
        exact ih (k + 1) ((mU (mU s0.1 71 k (iI NOi)) 73 k (-9)), s0.2) (by omega) (Fr.trans (Fr.trans hf (Fr.mU (by decide))) (Fr.mU (by decide))) (fun j hj => if ej : j = k then (by rw [ej]; exact ⟨(two_a (f := s0.1) (p := 71) (q := 73) (k := k) (x := iI NOi) (y := -9) (by decide)).trans (congrArg iI (show NOi = (ini T r (n 0)).1 k from (if_neg (fun hh => by omega)).symm)), two_b (f := s0.1) (p := 71) (q := 73) (k := k) (x := iI NOi) (y := -9)⟩) else ⟨(two_c (f := s0.1) (p := 71) (q := 73) (k := k) (x := iI NOi) (y := -9) (by decide) ej).trans (hz j (by omega)).1, (two_d (f := s0.1) (p := 71) (q := 73) (k := k) (x := iI NOi) (y := -9) (by decide) ej).trans (hz j (by omega)).2⟩)
      · replace h2 : ¬ (r ≤ dD T k) := fun hh => h2 ((nI_leI (a := r) (b := (dD T k)) (by omega) (by omega)).mpr hh)
        refine w_blk 2 (pc' := 39) (ls' := [some (.ref 53), some (.int (nI r)), some (.int 0), some (.int (nI k)), none, none, none, none]) (sk' := [.int 0, .int (nI k), .ref 71]) (st' := s0) (fun _ h => h) ?_
        refine w_iast rfl rfl (vp_in_nI (n := k) (N := 6) (by omega) (by decide)) ?_
        rw [nI_clamp (show k < 2 ^ 31 by omega)]
        refine w_blk 4 (pc' := 47) (ls' := [some (.ref 53), some (.int (nI r)), some (.int 0), some (.int (nI k)), none, none, none, none]) (sk' := [.int (-9), .int (nI k), .ref 73]) (st' := ((mU s0.1 71 k 0), s0.2)) (fun _ h => h) ?_
        refine w_iast rfl rfl (vp_in_nI (n := k) (N := 6) (by omega) (by decide)) ?_
        rw [nI_clamp (show k < 2 ^ 31 by omega)]
        refine w_blk 1 (pc' := 51) (ls' := [some (.ref 53), some (.int (nI r)), some (.int 0), some (.int ((nI k) + 1)), none, none, none, none]) (sk' := []) (st' := ((mU (mU s0.1 71 k 0) 73 k (-9)), s0.2)) (fun _ h => h) ?_
        rw [show ((nI k) + 1) = nI (k + 1) from nI_add k 1]
        refine w_blk 1 (pc' := 2) (ls' := [some (.ref 53), some (.int (nI r)), some (.int 0), some (.int (nI (k + 1))), none, none, none, none]) (sk' := []) (st' := ((mU (mU s0.1 71 k 0) 73 k (-9)), s0.2)) (fun _ h => h) ?_
        exact ih (k + 1) ((mU (mU s0.1 71 k 0) 73 k (-9)), s0.2) (by omega) (Fr.trans (Fr.trans hf (Fr.mU (by decide))) (Fr.mU (by decide))) (fun j hj => if ej : j = k then (by rw [ej]; exact ⟨(two_a (f := s0.1) (p := 71) (q := 73) (k := k) (x := 0) (y := -9) (by decide)).trans (by rw [show (ini T r (n 0)).1 k = 0 from if_pos ⟨by omega, by omega, by omega⟩]; exact iI_0), two_b (f := s0.1) (p := 71) (q := 73) (k := k) (x := 0) (y := -9)⟩) else ⟨(two_c (f := s0.1) (p := 71) (q := 73) (k := k) (x := 0) (y := -9) (by decide) ej).trans (hz j (by omega)).1, (two_d (f := s0.1) (p := 71) (q := 73) (k := k) (x := 0) (y := -9) (by decide) ej).trans (hz j (by omega)).2⟩)
