/-! THE INVARIANT of both objects -/
def F5 (st s : mSt) : Prop := Fr [65] st s ∧ ∀ j, 20 ≤ j → s.1 65 j = st.1 65 j
theorem F5.rf {st : mSt} : F5 st st := ⟨Fr.rf, fun _ _ => rfl⟩
theorem F5.w {st s : mSt} {k : Nat} {x : Int32} (h : F5 st s) (hk : k < 20) : F5 st (mU s.1 65 k x, s.2) := ⟨Fr.trans h.1 (Fr.mU (by decide)), fun j hj => (mU_row (by omega)).trans (h.2 j hj)⟩
theorem F5.m1 {st s : mSt} {v : Nat → Int32} {u : Nat → Nat} (h : F5 st s) (hM : NM1 st v u) : NM1 s v u := ⟨fun j hj => (h.2 (20 + j) (by omega)).trans (hM.1 j hj), fun j h3 hj => (h.2 (20 + j) (by omega)).trans (hM.2 j h3 hj)⟩
theorem F5.m2 {st s : mSt} {v : Nat → Int32} {u : Nat → Nat} (h : F5 st s) (hM : NM2 st v u) : NM2 s v u := ⟨fun j hj => (h.2 (40 + j) (by omega)).trans (hM.1 j hj), fun j h3 hj => (h.2 (40 + j) (by omega)).trans (hM.2 j h3 hj)⟩
set_option maxRecDepth 20000 in
theorem m_endsL (d : Nat) (n : Nat → Nat) (c : Nat → Nat → Nat) (v : Nat → Int32) (u : Nat → Nat)  (st : mSt) (hR : MR st n c) (hM : NM0 st v u) (hB : CB n c) (hU : ∀ j, 3 ≤ j → j < 12 → u j < 256) : ∃ (s : mSt), mMC mT (d + 1) 151 [.ref 53] st (some (.int (nI (slow (c 1) (u 3) (n 0))))) s ∧ NM0 s (en_v n c v u) (en_u u) ∧ F5 st s := by
  suffices H : ∀ Q : Option Value → mSt → Prop, (∀ (s : mSt), (NM0 s (en_v n c v u) (en_u u) ∧ F5 st s) → Q (some (.int (nI (slow (c 1) (u 3) (n 0))))) s) → mW (mMC mT (d + 0)) (0, fun _ => 0) (mAtL P_X10_ends) (some .int) Q 0 [some (.ref 53), none, none] [] st by
    obtain ⟨_, _, ⟨s, rfl, rfl, hp⟩, hw⟩ := mW_ex (H (fun vv tt => ∃ (s : mSt),  vv = some (.int (nI (slow (c 1) (u 3) (n 0)))) ∧ s = tt ∧ NM0 s (en_v n c v u) (en_u u) ∧ F5 st s) (fun s hp => ⟨s, rfl, rfl, hp⟩))
    exact ⟨s, mI_X10_ends (d := d + 0) (Nat.le_of_ble_eq_true rfl) hw, hp⟩
  intro Q hq
  obtain ⟨hb0, hb1, hb2, hbd, hbs, hby⟩ := id hB
  refine w_blk 4 (pc' := 4) (ls' := [some (.ref 53), some (.int 0), some (.int 0)]) (sk' := []) (st' := st) (fun _ h => h) ?_
  have h3 := hU 3 (by omega) (by omega)
  have hsl : ∀ k, k ≤ n 0 → slow (c 1) (u 3) k ≤ 9 := fun k hk => slow_le k (fun i hi => (hbd i (by omega)).2.2.2.1)
  have key : ∀ (m k : Nat), k + m = n 0 → mW (mMC mT (d + 0)) (0, fun _ => 0) (mAtL P_X10_ends) (some .int) Q 4 [some (.ref 53), some (.int (nI (slow (c 1) (u 3) k))), some (.int (nI k))] [] st := by
    intro m
    induction m with
    | zero =>
      intro k hk
      obtain rfl : n 0 = k := by omega
      refine w_blk 4 (pc' := 10) (ls' := [some (.ref 53), some (.int (nI (slow (c 1) (u 3) (n 0)))), some (.int (nI (n 0)))]) (sk' := [.int 0, .ref 55, .int (nI (n 0))]) (st' := st) (fun _ h => h) ?_
      refine w_iald rfl rfl (vp_in_nI (n := 0) (N := 2) (by decide) (by decide)) ?_
      rw [show Int32.toNatClampNeg (0 : Int32) = 0 from rfl]
      rw [hR.1]
      refine w_cmp_ge rfl (fun _ => ?_) (fun hno => absurd (Int32.le_refl _) hno)
      refine w_blk 4 (pc' := 61) (ls' := [some (.ref 53), some (.int (nI (slow (c 1) (u 3) (n 0)))), some (.int (nI (n 0)))]) (sk' := [.int 1, .ref 65, .int 1, .ref 65]) (st' := st) (fun _ h => h) ?_
      refine w_iald rfl rfl (vp_in_nI (n := 1) (N := 60) (by decide) (by decide)) ?_
      rw [show Int32.toNatClampNeg (1 : Int32) = 1 from rfl]
      rw [hM.1 1 (by omega)]
      refine w_blk 2 (pc' := 64) (ls' := [some (.ref 53), some (.int (nI (slow (c 1) (u 3) (n 0)))), some (.int (nI (n 0)))]) (sk' := [.int ((v 1) + (nI (slow (c 1) (u 3) (n 0)))), .int 1, .ref 65]) (st' := st) (fun _ h => h) ?_
      refine w_iast rfl rfl (vp_in_nI (n := 1) (N := 60) (by decide) (by decide)) ?_
      rw [show Int32.toNatClampNeg (1 : Int32) = 1 from rfl]
      have hM_2 : NM0 ((mU st.1 65 1 ((v 1) + (nI (slow (c 1) (u 3) (n 0))))), st.2) (updI v 1 (v 1 + nI (slow (c 1) (u 3) (n 0)))) u := NM0_v hM 1 _ (by decide)
      have hf_3 : F5 st ((mU st.1 65 1 ((v 1) + (nI (slow (c 1) (u 3) (n 0))))), st.2) := (F5.w (F5.rf : F5 st st) (by omega))
      generalize ((mU st.1 65 1 ((v 1) + (nI (slow (c 1) (u 3) (n 0))))), st.2) = s1 at hM_2 hf_3 ⊢
      refine w_blk 4 (pc' := 71) (ls' := [some (.ref 53), some (.int (nI (slow (c 1) (u 3) (n 0)))), some (.int (nI (n 0)))]) (sk' := [.int 0, .int 3, .ref 65]) (st' := s1) (fun _ h => h) ?_
      refine w_iast rfl rfl (vp_in_nI (n := 3) (N := 60) (by decide) (by decide)) ?_
      rw [show Int32.toNatClampNeg (3 : Int32) = 3 from rfl]
      have hM_5 : NM0 ((mU s1.1 65 3 0), s1.2) (updI v 1 (v 1 + nI (slow (c 1) (u 3) (n 0)))) (updN u 3 0) := NM0_u hM_2 3 0 (by decide)
      have hf_6 : F5 st ((mU s1.1 65 3 0), s1.2) := (F5.w hf_3 (by omega))
      generalize ((mU s1.1 65 3 0), s1.2) = s4 at hM_5 hf_6 ⊢
      refine w_blk 4 (pc' := 78) (ls' := [some (.ref 53), some (.int (nI (slow (c 1) (u 3) (n 0)))), some (.int (nI (n 0)))]) (sk' := [.int 0, .int 4, .ref 65]) (st' := s4) (fun _ h => h) ?_
      refine w_iast rfl rfl (vp_in_nI (n := 4) (N := 60) (by decide) (by decide)) ?_
      rw [show Int32.toNatClampNeg (4 : Int32) = 4 from rfl]
      have hM_8 : NM0 ((mU s4.1 65 4 0), s4.2) (updI v 1 (v 1 + nI (slow (c 1) (u 3) (n 0)))) (en_u u) := NM0_u hM_5 4 0 (by decide)
      have hf_9 : F5 st ((mU s4.1 65 4 0), s4.2) := (F5.w hf_6 (by omega))
      generalize ((mU s4.1 65 4 0), s4.2) = s7 at hM_8 hf_9 ⊢
      refine w_blk 4 (pc' := 85) (ls' := [some (.ref 53), some (.int (nI (slow (c 1) (u 3) (n 0)))), some (.int (nI (n 0)))]) (sk' := [.int 0, .ref 65, .int 0, .ref 65]) (st' := s7) (fun _ h => h) ?_
      refine w_iald rfl rfl (vp_in_nI (n := 0) (N := 60) (by decide) (by decide)) ?_
      rw [show Int32.toNatClampNeg (0 : Int32) = 0 from rfl]
      rw [(show s7.1 65 0 = v 0 from hM_8.1 0 (by decide))]
      refine w_blk 2 (pc' := 88) (ls' := [some (.ref 53), some (.int (nI (slow (c 1) (u 3) (n 0)))), some (.int (nI (n 0)))]) (sk' := [.int ((v 0) + 1), .int 0, .ref 65]) (st' := s7) (fun _ h => h) ?_
      refine w_iast rfl rfl (vp_in_nI (n := 0) (N := 60) (by decide) (by decide)) ?_
      rw [show Int32.toNatClampNeg (0 : Int32) = 0 from rfl]
      have hM_11 : NM0 ((mU s7.1 65 0 ((v 0) + 1)), s7.2) (en_v n c v u) (en_u u) := (by have hh := NM0_v hM_8 0 (v 0 + 1) (by decide); rw [show updI (updI v 1 (v 1 + nI (slow (c 1) (u 3) (n 0)))) 0 (v 0 + 1) = en_v n c v u from updI_comm (by decide)] at hh; exact hh)
      have hf_12 : F5 st ((mU s7.1 65 0 ((v 0) + 1)), s7.2) := (F5.w hf_9 (by omega))
      generalize ((mU s7.1 65 0 ((v 0) + 1)), s7.2) = s10 at hM_11 hf_12 ⊢
      refine w_blk 1 (pc' := 90) (ls' := [some (.ref 53), some (.int (nI (slow (c 1) (u 3) (n 0)))), some (.int (nI (n 0)))]) (sk' := [.int (nI (slow (c 1) (u 3) (n 0)))]) (st' := s10) (fun _ h => h) ?_
      exact w_iret rfl rfl rfl (hq _ ⟨hM_11, hf_12⟩)
    | succ m ih =>
      intro k hk
      have hk2 : k < n 0 := by omega
      have hsk := hsl k (by omega)
      have hpk := (hbd k hk2).2.2.2.1
      refine w_blk 4 (pc' := 10) (ls' := [some (.ref 53), some (.int (nI (slow (c 1) (u 3) k))), some (.int (nI k))]) (sk' := [.int 0, .ref 55, .int (nI k)]) (st' := st) (fun _ h => h) ?_
      refine w_iald rfl rfl (vp_in_nI (n := 0) (N := 2) (by decide) (by decide)) ?_
      rw [show Int32.toNatClampNeg (0 : Int32) = 0 from rfl]
      rw [hR.1]
      refine w_cmp_ge rfl (fun hno => absurd hno (nI_ge hk2 (by omega))) (fun _ => ?_)
      refine w_blk 3 (pc' := 19) (ls' := [some (.ref 53), some (.int (nI (slow (c 1) (u 3) k))), some (.int (nI k))]) (sk' := [.int 3, .ref 65]) (st' := st) (fun _ h => h) ?_
      refine w_iald rfl rfl (vp_in_nI (n := 3) (N := 60) (by decide) (by decide)) ?_
      rw [show Int32.toNatClampNeg (3 : Int32) = 3 from rfl]
      rw [hM.2 3 (by omega) (by omega)]
      refine w_blk 4 (pc' := 24) (ls' := [some (.ref 53), some (.int (nI (slow (c 1) (u 3) k))), some (.int (nI k))]) (sk' := [.int (((nI (u 3)) >>> ((nI k) &&& 31)) &&& 1)]) (st' := st) (fun _ h => h) ?_
      rw [show (((nI (u 3)) >>> ((nI k) &&& 31)) &&& 1) = pI (Nat.testBit (u 3) k = true) from nI_bit (by omega) (by have := hU 3 (by omega) (by omega); omega)]
      refine w_blk 1 (pc' := 25) (ls' := [some (.ref 53), some (.int (nI (slow (c 1) (u 3) k))), some (.int (nI k))]) (sk' := [.int 1, .int (pI (Nat.testBit (u 3) k = true))]) (st' := st) (fun _ h => h) ?_
      refine w_cmp_ne rfl (fun h1 => ?_) (fun h1 => ?_)
      · replace h1 := fun hh => h1 (pI_eq1.mpr hh)
        refine w_blk 3 (pc' := 52) (ls' := [some (.ref 53), some (.int (nI (slow (c 1) (u 3) k))), some (.int ((nI k) + 1))]) (sk' := []) (st' := st) (fun _ h => h) ?_
        rw [show ((nI k) + 1) = nI (k + 1) from nI_add k 1]
        refine w_blk 1 (pc' := 4) (ls' := [some (.ref 53), some (.int (nI (slow (c 1) (u 3) k))), some (.int (nI (k + 1)))]) (sk' := []) (st' := st) (fun _ h => h) ?_
        exact (by have hh := ih (k + 1) (by omega); rw [show slow (c 1) (u 3) (k + 1) = slow (c 1) (u 3) k from by show (if (u 3).testBit k = true then max (slow (c 1) (u 3) k) (c 1 k) else slow (c 1) (u 3) k) = _; split <;> first | rfl | omega | contradiction] at hh; exact hh)
      · replace h1 := pI_eq1.mp (Decidable.not_not.mp h1)
        refine w_blk 3 (pc' := 33) (ls' := [some (.ref 53), some (.int (nI (slow (c 1) (u 3) k))), some (.int (nI k))]) (sk' := [.int (nI k), .ref 57]) (st' := st) (fun _ h => h) ?_
        refine w_iald rfl rfl (vp_in_nI (n := k) (N := 12) (by omega) (by decide)) ?_
        rw [nI_clamp (show k < 2 ^ 31 by omega)]
        rw [(hR.2.2.2.1 k (by omega)).2.1]
        refine w_blk 1 (pc' := 35) (ls' := [some (.ref 53), some (.int (nI (slow (c 1) (u 3) k))), some (.int (nI k))]) (sk' := [.int (nI (slow (c 1) (u 3) k)), .int (nI (c 1 k))]) (st' := st) (fun _ h => h) ?_
        refine w_cmp_le rfl (fun h2 => ?_) (fun h2 => ?_)
        · replace h2 : c 1 k ≤ slow (c 1) (u 3) k := (nI_leI (a := (c 1 k)) (b := (slow (c 1) (u 3) k)) (by omega) (by omega)).mp h2
          refine w_blk 3 (pc' := 52) (ls' := [some (.ref 53), some (.int (nI (slow (c 1) (u 3) k))), some (.int ((nI k) + 1))]) (sk' := []) (st' := st) (fun _ h => h) ?_
          rw [show ((nI k) + 1) = nI (k + 1) from nI_add k 1]
          refine w_blk 1 (pc' := 4) (ls' := [some (.ref 53), some (.int (nI (slow (c 1) (u 3) k))), some (.int (nI (k + 1)))]) (sk' := []) (st' := st) (fun _ h => h) ?_
          exact (by have hh := ih (k + 1) (by omega); rw [show slow (c 1) (u 3) (k + 1) = slow (c 1) (u 3) k from by show (if (u 3).testBit k = true then max (slow (c 1) (u 3) k) (c 1 k) else slow (c 1) (u 3) k) = _; split <;> first | rfl | omega | contradiction] at hh; exact hh)
        · replace h2 : ¬ (c 1 k ≤ slow (c 1) (u 3) k) := fun hh => h2 ((nI_leI (a := (c 1 k)) (b := (slow (c 1) (u 3) k)) (by omega) (by omega)).mpr hh)
          refine w_blk 3 (pc' := 43) (ls' := [some (.ref 53), some (.int (nI (slow (c 1) (u 3) k))), some (.int (nI k))]) (sk' := [.int (nI k), .ref 57]) (st' := st) (fun _ h => h) ?_
          refine w_iald rfl rfl (vp_in_nI (n := k) (N := 12) (by omega) (by decide)) ?_
          rw [nI_clamp (show k < 2 ^ 31 by omega)]
          rw [(hR.2.2.2.1 k (by omega)).2.1]
          refine w_blk 3 (pc' := 52) (ls' := [some (.ref 53), some (.int (nI (c 1 k))), some (.int ((nI k) + 1))]) (sk' := []) (st' := st) (fun _ h => h) ?_
          rw [show ((nI k) + 1) = nI (k + 1) from nI_add k 1]
          refine w_blk 1 (pc' := 4) (ls' := [some (.ref 53), some (.int (nI (c 1 k))), some (.int (nI (k + 1)))]) (sk' := []) (st' := st) (fun _ h => h) ?_
          exact (by have hh := ih (k + 1) (by omega); rw [show slow (c 1) (u 3) (k + 1) = c 1 k from (if_pos h1).trans (by omega)] at hh; exact hh)
  exact key (n 0 - 0) 0 (by omega)
set_option maxRecDepth 20000 in
theorem m_breaksL (d : Nat) (n : Nat → Nat) (c : Nat → Nat → Nat) (v : Nat → Int32) (u : Nat → Nat) (x : Int32) (st : mSt) (hR : MR st n c) (hM : NM0 st v u) (hB : CB n c) (hU : ∀ j, 3 ≤ j → j < 12 → u j < 256) : ∃ (s : mSt), mMC mT (d + 3) 152 [.ref 53, .int x] st (some (.int (sp_breaks n u x))) s ∧ NM0 s v (br_u n u x) ∧ F5 st s := by
  suffices H : ∀ Q : Option Value → mSt → Prop, (∀ (s : mSt), (NM0 s v (br_u n u x) ∧ F5 st s) → Q (some (.int (sp_breaks n u x))) s) → mW (mMC mT (d + 2)) (0, fun _ => 0) (mAtL P_X10_breaks) (some .int) Q 0 [some (.ref 53), some (.int x), none] [] st by
    obtain ⟨_, _, ⟨s, rfl, rfl, hp⟩, hw⟩ := mW_ex (H (fun vv tt => ∃ (s : mSt),  vv = some (.int (sp_breaks n u x)) ∧ s = tt ∧ NM0 s v (br_u n u x) ∧ F5 st s) (fun s hp => ⟨s, rfl, rfl, hp⟩))
    exact ⟨s, mI_X10_breaks (d := d + 2) (Nat.le_of_ble_eq_true rfl) hw, hp⟩
  intro Q hq
  obtain ⟨hb0, hb1, hb2, hbd, hbs, hby⟩ := id hB
  refine w_blk 2 (pc' := 2) (ls' := [some (.ref 53), some (.int x), none]) (sk' := [.int x, .ref 53]) (st' := st) (fun _ h => h) ?_
  refine w_callV (As := [.ref 53, .int x]) (rest := []) rfl rfl rfl (Nat.le_of_ble_eq_true rfl) (Nat.le_of_ble_eq_true rfl) (by first | exact Or.inl ⟨rfl, rfl⟩ | exact Or.inr ⟨rfl, rfl⟩) (m_isSpade (d + 0) n c x st hR hB) ?_
  refine w_if_ne rfl (fun h1 => ?_) (fun h1 => ?_)
  · replace h1 := pI_ne.mp h1
    obtain ⟨k, hk, rfl⟩ := nI_in2 (by omega) h1
    have hok : ok1 n (nI k) := nI_in3 (by omega) hk
    have ec := nI_clamp (show k < 2 ^ 31 by omega)
    refine w_blk 3 (pc' := 15) (ls' := [some (.ref 53), some (.int (nI k)), none]) (sk' := [.int 5, .ref 65]) (st' := st) (fun _ h => h) ?_
    refine w_iald rfl rfl (vp_in_nI (n := 5) (N := 60) (by decide) (by decide)) ?_
    rw [show Int32.toNatClampNeg (5 : Int32) = 5 from rfl]
    rw [hM.2 5 (by omega) (by omega)]
    refine w_blk 4 (pc' := 20) (ls' := [some (.ref 53), some (.int (nI k)), none]) (sk' := [.int (((nI (u 5)) >>> ((nI k) &&& 31)) &&& 1)]) (st' := st) (fun _ h => h) ?_
    rw [show (((nI (u 5)) >>> ((nI k) &&& 31)) &&& 1) = pI (Nat.testBit (u 5) k = true) from nI_bit (by omega) (by have := hU 5 (by omega) (by omega); omega)]
    refine w_blk 5 (pc' := 27) (ls' := [some (.ref 53), some (.int (nI k)), some (.int (pI (Nat.testBit (u 5) k = true)))]) (sk' := [.int 5, .ref 65, .int 5, .ref 65]) (st' := st) (fun _ h => h) ?_
    refine w_iald rfl rfl (vp_in_nI (n := 5) (N := 60) (by decide) (by decide)) ?_
    rw [show Int32.toNatClampNeg (5 : Int32) = 5 from rfl]
    rw [hM.2 5 (by omega) (by omega)]
    refine w_blk 3 (pc' := 31) (ls' := [some (.ref 53), some (.int (nI k)), some (.int (pI (Nat.testBit (u 5) k = true)))]) (sk' := [.int (1 <<< ((nI k) &&& 31)), .int (nI (u 5)), .int 5, .ref 65]) (st' := st) (fun _ h => h) ?_
    rw [show (1 <<< ((nI k) &&& 31)) = nI (2 ^ k) from nI_shl1 (by omega)]
    refine w_blk 1 (pc' := 32) (ls' := [some (.ref 53), some (.int (nI k)), some (.int (pI (Nat.testBit (u 5) k = true)))]) (sk' := [.int ((nI (u 5)) ||| (nI (2 ^ k))), .int 5, .ref 65]) (st' := st) (fun _ h => h) ?_
    rw [show ((nI (u 5)) ||| (nI (2 ^ k))) = nI ((u 5) ||| (2 ^ k)) from nI_or (u 5) (2 ^ k)]
    refine w_iast rfl rfl (vp_in_nI (n := 5) (N := 60) (by decide) (by decide)) ?_
    rw [show Int32.toNatClampNeg (5 : Int32) = 5 from rfl]
    have hM_2 : NM0 ((mU st.1 65 5 (nI ((u 5) ||| (2 ^ k)))), st.2) v (updN u 5 (u 5 ||| 2 ^ k)) := NM0_u hM 5 _ (by decide)
    have hf_3 : F5 st ((mU st.1 65 5 (nI ((u 5) ||| (2 ^ k)))), st.2) := (F5.w (F5.rf : F5 st st) (by omega))
    generalize ((mU st.1 65 5 (nI ((u 5) ||| (2 ^ k)))), st.2) = s1 at hM_2 hf_3 ⊢
    refine w_blk 3 (pc' := 36) (ls' := [some (.ref 53), some (.int (nI k)), some (.int (pI (Nat.testBit (u 5) k = true)))]) (sk' := [.int (1 - (pI (Nat.testBit (u 5) k = true)))]) (st' := s1) (fun _ h => h) ?_
    rw [show sp_breaks n u (nI k) = (1 - (pI (Nat.testBit (u 5) k = true))) from (if_pos hok).trans (by rw [ec]; by_cases hb : (u 5).testBit k = true <;> simp only [hb, if_true, if_false, pI] <;> rfl), show br_u n u (nI k) = updN u 5 (u 5 ||| 2 ^ k) from (if_pos hok).trans (by rw [ec])] at hq
    exact w_iret rfl rfl rfl (hq _ ⟨hM_2, hf_3⟩)
  · replace h1 := pI_eq0.mp (Decidable.not_not.mp h1)
    refine w_blk 1 (pc' := 9) (ls' := [some (.ref 53), some (.int x), none]) (sk' := [.int (-1)]) (st' := st) (fun _ h => h) ?_
    rw [show sp_breaks n u x = -1 from if_neg h1, show br_u n u x = u from if_neg h1] at hq
    exact w_iret rfl rfl rfl (hq _ ⟨hM, F5.rf⟩)
set_option maxRecDepth 20000 in
theorem m_anewL (d : Nat) (v : Nat → Int32) (u : Nat → Nat)  (st : mSt) (hM : NM0 st v u) : ∃ (s : mSt), mMC mT (d + 1) 154 [.ref 53] st (some (.int (v 0))) s ∧ NM0 s (fun _ => 0) (fun _ => 0) ∧ F5 st s := by
  suffices H : ∀ Q : Option Value → mSt → Prop, (∀ (s : mSt), (NM0 s (fun _ => 0) (fun _ => 0) ∧ F5 st s) → Q (some (.int (v 0))) s) → mW (mMC mT (d + 0)) (0, fun _ => 0) (mAtL P_X10_anew) (some .int) Q 0 [some (.ref 53), none, none] [] st by
    obtain ⟨_, _, ⟨s, rfl, rfl, hp⟩, hw⟩ := mW_ex (H (fun vv tt => ∃ (s : mSt),  vv = some (.int (v 0)) ∧ s = tt ∧ NM0 s (fun _ => 0) (fun _ => 0) ∧ F5 st s) (fun s hp => ⟨s, rfl, rfl, hp⟩))
    exact ⟨s, mI_X10_anew (d := d + 0) (Nat.le_of_ble_eq_true rfl) hw, hp⟩
  intro Q hq
  refine w_blk 3 (pc' := 5) (ls' := [some (.ref 53), none, none]) (sk' := [.int 0, .ref 65]) (st' := st) (fun _ h => h) ?_
  refine w_iald rfl rfl (vp_in_nI (n := 0) (N := 60) (by decide) (by decide)) ?_
  rw [show Int32.toNatClampNeg (0 : Int32) = 0 from rfl]
  rw [hM.1 0 (by omega)]
  refine w_blk 3 (pc' := 9) (ls' := [some (.ref 53), some (.int (v 0)), some (.int 0)]) (sk' := []) (st' := st) (fun _ h => h) ?_
  suffices key : ∀ (m k : Nat) (s0 : mSt), k + m = 20 → F5 st s0 → (∀ j, j < k → s0.1 65 j = 0) → mW (mMC mT (d + 0)) (0, fun _ => 0) (mAtL P_X10_anew) (some .int) Q 9 [some (.ref 53), some (.int (v 0)), some (.int (nI k))] [] s0 from key 20 0 st (by omega) F5.rf (fun j hj => absurd hj (by omega))
  intro m
  induction m with
  | zero =>
    intro k s0 hk hf hz
    obtain rfl : k = 20 := by omega
    refine w_blk 2 (pc' := 12) (ls' := [some (.ref 53), some (.int (v 0)), some (.int (nI 20))]) (sk' := [.int 20, .int (nI 20)]) (st' := s0) (fun _ h => h) ?_
    refine w_cmp_ge rfl (fun _ => ?_) (fun hno => absurd (Int32.le_refl _) hno)
    refine w_blk 1 (pc' := 29) (ls' := [some (.ref 53), some (.int (v 0)), some (.int (nI 20))]) (sk' := [.int (v 0)]) (st' := s0) (fun _ h => h) ?_
    exact w_iret rfl rfl rfl (hq _ ⟨⟨fun j hj => hz j (by omega), fun j _ hj => hz j hj⟩, hf⟩)
  | succ m ih =>
    intro k s0 hk hf hz
    refine w_blk 2 (pc' := 12) (ls' := [some (.ref 53), some (.int (v 0)), some (.int (nI k))]) (sk' := [.int 20, .int (nI k)]) (st' := s0) (fun _ h => h) ?_
    refine w_cmp_ge rfl (fun hno => absurd hno (nI_ge (a := k) (b := 20) (by omega) (by omega))) (fun _ => ?_)
    refine w_blk 4 (pc' := 21) (ls' := [some (.ref 53), some (.int (v 0)), some (.int (nI k))]) (sk' := [.int 0, .int (nI k), .ref 65]) (st' := s0) (fun _ h => h) ?_
    refine w_iast rfl rfl (vp_in_nI (n := k) (N := 60) (by omega) (by decide)) ?_
    rw [nI_clamp (show k < 2 ^ 31 by omega)]
    refine w_blk 1 (pc' := 25) (ls' := [some (.ref 53), some (.int (v 0)), some (.int ((nI k) + 1))]) (sk' := []) (st' := ((mU s0.1 65 k 0), s0.2)) (fun _ h => h) ?_
    rw [show ((nI k) + 1) = nI (k + 1) from nI_add k 1]
    refine w_blk 1 (pc' := 9) (ls' := [some (.ref 53), some (.int (v 0)), some (.int (nI (k + 1)))]) (sk' := []) (st' := ((mU s0.1 65 k 0), s0.2)) (fun _ h => h) ?_
    refine ih (k + 1) ((mU s0.1 65 k 0), s0.2) (by omega) (F5.w hf (by omega)) (fun j hj => ?_)
    by_cases e : j = k
    · subst e
      exact mU_at (f := s0.1) (p := 65) (k := j)
    · exact (mU_row e).trans (hz j (by omega))
set_option maxRecDepth 20000 in
theorem m_throwWithL (d : Nat) (n : Nat → Nat) (c : Nat → Nat → Nat) (v : Nat → Int32) (u : Nat → Nat) (yd : Nat) (x y : Int32) (st : mSt) (hR : MR st n c) (hM : NM0 st v u) (hB : CB n c) (hU : ∀ j, 3 ≤ j → j < 12 → u j < 256) (hyd : yd ≤ n 2) (hyb : yd < n 2 → u (12 + yd) < c 5 yd) (hyc : ∀ y, y < yd → u (12 + y) = c 5 y) : ∃ (s : mSt), mMC mT (d + 3) 150 [.ref 53, .int x, .int y] st (some (.int (sp_throw n c u yd x y))) s ∧ NM0 s (tw_v n c v u yd x y) (tw_u n c u yd x y) ∧ F5 st s := by
  suffices H : ∀ Q : Option Value → mSt → Prop, (∀ (s : mSt), (NM0 s (tw_v n c v u yd x y) (tw_u n c u yd x y) ∧ F5 st s) → Q (some (.int (sp_throw n c u yd x y))) s) → mW (mMC mT (d + 2)) (0, fun _ => 0) (mAtL P_X10_throwWith) (some .int) Q 0 [some (.ref 53), some (.int x), some (.int y), none, none, none] [] st by
    obtain ⟨_, _, ⟨s, rfl, rfl, hp⟩, hw⟩ := mW_ex (H (fun vv tt => ∃ (s : mSt),  vv = some (.int (sp_throw n c u yd x y)) ∧ s = tt ∧ NM0 s (tw_v n c v u yd x y) (tw_u n c u yd x y) ∧ F5 st s) (fun s hp => ⟨s, rfl, rfl, hp⟩))
    exact ⟨s, mI_X10_throwWith (d := d + 2) (Nat.le_of_ble_eq_true rfl) hw, hp⟩
  intro Q hq
  obtain ⟨hb0, hb1, hb2, hbd, hbs, hby⟩ := id hB
  refine w_blk 2 (pc' := 2) (ls' := [some (.ref 53), some (.int x), some (.int y), none, none, none]) (sk' := [.int x, .ref 53]) (st' := st) (fun _ h => h) ?_
  refine w_callV (As := [.ref 53, .int x]) (rest := []) rfl rfl rfl (Nat.le_of_ble_eq_true rfl) (Nat.le_of_ble_eq_true rfl) (by first | exact Or.inl ⟨rfl, rfl⟩ | exact Or.inr ⟨rfl, rfl⟩) (m_isDigger (d + 0) n c x st hR hB) ?_
  refine w_if_eq rfl (fun h1 => ?_) (fun h1 => ?_)
  · replace h1 := pI_eq0.mp h1
    refine w_blk 1 (pc' := 17) (ls' := [some (.ref 53), some (.int x), some (.int y), none, none, none]) (sk' := [.int (-1)]) (st' := st) (fun _ h => h) ?_
    have hno : ¬ thC n c u x y := fun h => h1 h.1
    rw [show tw_v n c v u yd x y = v from if_neg hno, show tw_u n c u yd x y = u from if_neg hno, show sp_throw n c u yd x y = -1 from if_neg h1] at hq
    exact w_iret rfl rfl rfl (hq _ ⟨hM, F5.rf⟩)
  · replace h1 := pI_ne.mp h1
    obtain ⟨k, hk, rfl⟩ := nI_in2 (by omega) h1
    refine w_blk 2 (pc' := 10) (ls' := [some (.ref 53), some (.int (nI k)), some (.int y), none, none, none]) (sk' := [.int y, .ref 53]) (st' := st) (fun _ h => h) ?_
    refine w_callV (As := [.ref 53, .int y]) (rest := []) rfl rfl rfl (Nat.le_of_ble_eq_true rfl) (Nat.le_of_ble_eq_true rfl) (by first | exact Or.inl ⟨rfl, rfl⟩ | exact Or.inr ⟨rfl, rfl⟩) (m_isSpade (d + 0) n c y st hR hB) ?_
    refine w_if_ne rfl (fun h2 => ?_) (fun h2 => ?_)
    · replace h2 := pI_ne.mp h2
      obtain ⟨j, hj, rfl⟩ := nI_in2 (by omega) h2
      have ht3 := hU 3 (by omega) (by omega)
      have ht4 := hU 4 (by omega) (by omega)
      refine w_blk 3 (pc' := 21) (ls' := [some (.ref 53), some (.int (nI k)), some (.int (nI j)), none, none, none]) (sk' := [.int (nI j), .int (nI k), .ref 53]) (st' := st) (fun _ h => h) ?_
      refine w_callV (As := [.ref 53, .int (nI k), .int (nI j)]) (rest := []) rfl rfl rfl (Nat.le_of_ble_eq_true rfl) (Nat.le_of_ble_eq_true rfl) (by first | exact Or.inl ⟨rfl, rfl⟩ | exact Or.inr ⟨rfl, rfl⟩) (m_mayNow (d + 1) n c v u k j st hR hM hB hU (by omega) (by omega)) ?_
      refine w_if_eq rfl (fun h5 => ?_) (fun h5 => ?_)
      · replace h5 := pI_eq0.mp h5
        refine w_blk 1 (pc' := 57) (ls' := [some (.ref 53), some (.int (nI k)), some (.int (nI j)), none, none, none]) (sk' := [.int (-2)]) (st' := st) (fun _ h => h) ?_
        have h3 : ¬ canP c u k j := fun h => h5 h.1
        have hno : ¬ thC n c u (nI k) (nI j) := fun h => h3 ((thC_iff (by omega) (by omega) hk hj).mp h)
        rw [show tw_v n c v u yd (nI k) (nI j) = v from if_neg hno, show tw_u n c u yd (nI k) (nI j) = u from if_neg hno, show sp_throw n c u yd (nI k) (nI j) = -2 from by unfold sp_throw; rw [if_pos (nI_in3 (by omega) hk), if_pos (nI_in3 (by omega) hj), nI_clamp (show k < 2 ^ 31 by omega), nI_clamp (show j < 2 ^ 31 by omega), if_neg h3]] at hq
        exact w_iret rfl rfl rfl (hq _ ⟨hM, F5.rf⟩)
      · replace h5 := pI_ne.mp h5
        refine w_blk 3 (pc' := 32) (ls' := [some (.ref 53), some (.int (nI k)), some (.int (nI j)), none, none, none]) (sk' := [.int 3, .ref 65]) (st' := st) (fun _ h => h) ?_
        refine w_iald rfl rfl (vp_in_nI (n := 3) (N := 60) (by decide) (by decide)) ?_
        rw [show Int32.toNatClampNeg (3 : Int32) = 3 from rfl]
        rw [hM.2 3 (by omega) (by omega)]
        refine w_blk 4 (pc' := 37) (ls' := [some (.ref 53), some (.int (nI k)), some (.int (nI j)), none, none, none]) (sk' := [.int (((nI (u 3)) >>> ((nI k) &&& 31)) &&& 1)]) (st' := st) (fun _ h => h) ?_
        rw [show (((nI (u 3)) >>> ((nI k) &&& 31)) &&& 1) = pI (Nat.testBit (u 3) k = true) from nI_bit (by omega) (by have := hU 3 (by omega) (by omega); omega)]
        refine w_blk 1 (pc' := 38) (ls' := [some (.ref 53), some (.int (nI k)), some (.int (nI j)), none, none, none]) (sk' := [.int 1, .int (pI (Nat.testBit (u 3) k = true))]) (st' := st) (fun _ h => h) ?_
        refine w_cmp_eq rfl (fun h6 => ?_) (fun h6 => ?_)
        · replace h6 := pI_eq1.mp h6
          refine w_blk 1 (pc' := 57) (ls' := [some (.ref 53), some (.int (nI k)), some (.int (nI j)), none, none, none]) (sk' := [.int (-2)]) (st' := st) (fun _ h => h) ?_
          have h3 : ¬ canP c u k j := fun h => absurd h6 (tb_false.mpr h.2.1)
          have hno : ¬ thC n c u (nI k) (nI j) := fun h => h3 ((thC_iff (by omega) (by omega) hk hj).mp h)
          rw [show tw_v n c v u yd (nI k) (nI j) = v from if_neg hno, show tw_u n c u yd (nI k) (nI j) = u from if_neg hno, show sp_throw n c u yd (nI k) (nI j) = -2 from by unfold sp_throw; rw [if_pos (nI_in3 (by omega) hk), if_pos (nI_in3 (by omega) hj), nI_clamp (show k < 2 ^ 31 by omega), nI_clamp (show j < 2 ^ 31 by omega), if_neg h3]] at hq
          exact w_iret rfl rfl rfl (hq _ ⟨hM, F5.rf⟩)
        · replace h6 := fun hh => h6 (pI_eq1.mpr hh)
          refine w_blk 3 (pc' := 46) (ls' := [some (.ref 53), some (.int (nI k)), some (.int (nI j)), none, none, none]) (sk' := [.int 4, .ref 65]) (st' := st) (fun _ h => h) ?_
          refine w_iald rfl rfl (vp_in_nI (n := 4) (N := 60) (by decide) (by decide)) ?_
          rw [show Int32.toNatClampNeg (4 : Int32) = 4 from rfl]
          rw [hM.2 4 (by omega) (by omega)]
          refine w_blk 4 (pc' := 51) (ls' := [some (.ref 53), some (.int (nI k)), some (.int (nI j)), none, none, none]) (sk' := [.int (((nI (u 4)) >>> ((nI j) &&& 31)) &&& 1)]) (st' := st) (fun _ h => h) ?_
          rw [show (((nI (u 4)) >>> ((nI j) &&& 31)) &&& 1) = pI (Nat.testBit (u 4) j = true) from nI_bit (by omega) (by have := hU 4 (by omega) (by omega); omega)]
          refine w_blk 1 (pc' := 52) (ls' := [some (.ref 53), some (.int (nI k)), some (.int (nI j)), none, none, none]) (sk' := [.int 1, .int (pI (Nat.testBit (u 4) j = true))]) (st' := st) (fun _ h => h) ?_
          refine w_cmp_ne rfl (fun h7 => ?_) (fun h7 => ?_)
          · replace h7 := fun hh => h7 (pI_eq1.mpr hh)
            have hcan : canP c u k j := ⟨h5, tb_false.mp h6, tb_false.mp (by first | assumption | exact fun e => h7 e)⟩
            have hyes : thC n c u (nI k) (nI j) := (thC_iff (by omega) (by omega) hk hj).mpr hcan
            refine w_blk 5 (pc' := 66) (ls' := [some (.ref 53), some (.int (nI k)), some (.int (nI j)), none, none, none]) (sk' := [.int (6 + (nI k)), .ref 65]) (st' := st) (fun _ h => h) ?_
            rw [show (6 + (nI k)) = nI (6 + k) from nI_add 6 k]
            refine w_blk 1 (pc' := 67) (ls' := [some (.ref 53), some (.int (nI k)), some (.int (nI j)), none, none, none]) (sk' := [.int (nI (6 + k)), .ref 65, .int (nI (6 + k)), .ref 65]) (st' := st) (fun _ h => h) ?_
            refine w_iald rfl rfl (vp_in_nI (n := (6 + k)) (N := 60) (by omega) (by decide)) ?_
            rw [nI_clamp (show (6 + k) < 2 ^ 31 by omega)]
            rw [hM.2 (6 + k) (by omega) (by omega)]
            refine w_blk 3 (pc' := 71) (ls' := [some (.ref 53), some (.int (nI k)), some (.int (nI j)), none, none, none]) (sk' := [.int (1 <<< ((nI j) &&& 31)), .int (nI (u (6 + k))), .int (nI (6 + k)), .ref 65]) (st' := st) (fun _ h => h) ?_
            rw [show (1 <<< ((nI j) &&& 31)) = nI (2 ^ j) from nI_shl1 (by omega)]
            refine w_blk 1 (pc' := 72) (ls' := [some (.ref 53), some (.int (nI k)), some (.int (nI j)), none, none, none]) (sk' := [.int ((nI (u (6 + k))) ||| (nI (2 ^ j))), .int (nI (6 + k)), .ref 65]) (st' := st) (fun _ h => h) ?_
            rw [show ((nI (u (6 + k))) ||| (nI (2 ^ j))) = nI ((u (6 + k)) ||| (2 ^ j)) from nI_or (u (6 + k)) (2 ^ j)]
            refine w_iast rfl rfl (vp_in_nI (n := (6 + k)) (N := 60) (by omega) (by decide)) ?_
            rw [nI_clamp (show (6 + k) < 2 ^ 31 by omega)]
            have hM_2 : NM0 ((mU st.1 65 (6 + k) (nI ((u (6 + k)) ||| (2 ^ j)))), st.2) v (updN u (6 + k) (u (6 + k) ||| 2 ^ j)) := NM0_u hM (6 + k) _ (by omega)
            have hf_3 : F5 st ((mU st.1 65 (6 + k) (nI ((u (6 + k)) ||| (2 ^ j)))), st.2) := (F5.w (F5.rf : F5 st st) (by omega))
            generalize ((mU st.1 65 (6 + k) (nI ((u (6 + k)) ||| (2 ^ j)))), st.2) = s1 at hM_2 hf_3 ⊢
            refine w_blk 4 (pc' := 79) (ls' := [some (.ref 53), some (.int (nI k)), some (.int (nI j)), none, none, none]) (sk' := [.int 3, .ref 65, .int 3, .ref 65]) (st' := s1) (fun _ h => h) ?_
            refine w_iald rfl rfl (vp_in_nI (n := 3) (N := 60) (by decide) (by decide)) ?_
            rw [show Int32.toNatClampNeg (3 : Int32) = 3 from rfl]
            rw [(show s1.1 65 3 = nI (u 3) from (hM_2.2 3 (by decide) (by decide)).trans (by rw [updN_n (by omega)]))]
            refine w_blk 3 (pc' := 83) (ls' := [some (.ref 53), some (.int (nI k)), some (.int (nI j)), none, none, none]) (sk' := [.int (1 <<< ((nI k) &&& 31)), .int (nI (u 3)), .int 3, .ref 65]) (st' := s1) (fun _ h => h) ?_
            rw [show (1 <<< ((nI k) &&& 31)) = nI (2 ^ k) from nI_shl1 (by omega)]
            refine w_blk 1 (pc' := 84) (ls' := [some (.ref 53), some (.int (nI k)), some (.int (nI j)), none, none, none]) (sk' := [.int ((nI (u 3)) ||| (nI (2 ^ k))), .int 3, .ref 65]) (st' := s1) (fun _ h => h) ?_
            rw [show ((nI (u 3)) ||| (nI (2 ^ k))) = nI ((u 3) ||| (2 ^ k)) from nI_or (u 3) (2 ^ k)]
            refine w_iast rfl rfl (vp_in_nI (n := 3) (N := 60) (by decide) (by decide)) ?_
            rw [show Int32.toNatClampNeg (3 : Int32) = 3 from rfl]
            have hM_5 : NM0 ((mU s1.1 65 3 (nI ((u 3) ||| (2 ^ k)))), s1.2) v (updN (updN u (6 + k) (u (6 + k) ||| 2 ^ j)) 3 (u 3 ||| 2 ^ k)) := NM0_u hM_2 3 _ (by decide)
            have hf_6 : F5 st ((mU s1.1 65 3 (nI ((u 3) ||| (2 ^ k)))), s1.2) := (F5.w hf_3 (by omega))
            generalize ((mU s1.1 65 3 (nI ((u 3) ||| (2 ^ k)))), s1.2) = s4 at hM_5 hf_6 ⊢
            refine w_blk 4 (pc' := 91) (ls' := [some (.ref 53), some (.int (nI k)), some (.int (nI j)), none, none, none]) (sk' := [.int 4, .ref 65, .int 4, .ref 65]) (st' := s4) (fun _ h => h) ?_
            refine w_iald rfl rfl (vp_in_nI (n := 4) (N := 60) (by decide) (by decide)) ?_
            rw [show Int32.toNatClampNeg (4 : Int32) = 4 from rfl]
            rw [(show s4.1 65 4 = nI (u 4) from (hM_5.2 4 (by decide) (by decide)).trans (by rw [updN_n (by decide)]; rw [updN_n (by omega)]))]
            refine w_blk 3 (pc' := 95) (ls' := [some (.ref 53), some (.int (nI k)), some (.int (nI j)), none, none, none]) (sk' := [.int (1 <<< ((nI j) &&& 31)), .int (nI (u 4)), .int 4, .ref 65]) (st' := s4) (fun _ h => h) ?_
            rw [show (1 <<< ((nI j) &&& 31)) = nI (2 ^ j) from nI_shl1 (by omega)]
            refine w_blk 1 (pc' := 96) (ls' := [some (.ref 53), some (.int (nI k)), some (.int (nI j)), none, none, none]) (sk' := [.int ((nI (u 4)) ||| (nI (2 ^ j))), .int 4, .ref 65]) (st' := s4) (fun _ h => h) ?_
            rw [show ((nI (u 4)) ||| (nI (2 ^ j))) = nI ((u 4) ||| (2 ^ j)) from nI_or (u 4) (2 ^ j)]
            refine w_iast rfl rfl (vp_in_nI (n := 4) (N := 60) (by decide) (by decide)) ?_
            rw [show Int32.toNatClampNeg (4 : Int32) = 4 from rfl]
            have hM_8 : NM0 ((mU s4.1 65 4 (nI ((u 4) ||| (2 ^ j)))), s4.2) v (th_u u k j) := (by have hh := NM0_u hM_5 4 (u 4 ||| 2 ^ j) (by decide); rw [updN_comm (show 6 + k ≠ 3 by omega), updN_comm (show 6 + k ≠ 4 by omega)] at hh; exact hh)
            have hf_9 : F5 st ((mU s4.1 65 4 (nI ((u 4) ||| (2 ^ j)))), s4.2) := (F5.w hf_6 (by omega))
            generalize ((mU s4.1 65 4 (nI ((u 4) ||| (2 ^ j)))), s4.2) = s7 at hM_8 hf_9 ⊢
            have hUt := th_u_bd hb0 hb1 hk hj hU
            have hto : ∀ y, th_u u k j (12 + y) = u (12 + y) := fun y => th_u_out (by omega)
            have hybt : yd < n 2 → th_u u k j (12 + yd) < c 5 yd := fun h => by rw [hto]; exact hyb h
            have hyct : ∀ y, y < yd → th_u u k j (12 + y) = c 5 y := fun y h => by rw [hto]; exact hyc y h
            have hRn := MR_fr hf_9.1 (by decide) hR
            have hpr := th_prod hB hk hj
            have hee := th_e_le (yd := yd) hB hk hj
            refine w_blk 1 (pc' := 98) (ls' := [some (.ref 53), some (.int (nI k)), some (.int (nI j)), none, none, none]) (sk' := [.ref 53]) (st' := s7) (fun _ h => h) ?_
            refine w_callV (As := [.ref 53]) (rest := []) rfl rfl rfl (Nat.le_of_ble_eq_true rfl) (Nat.le_of_ble_eq_true rfl) (by first | exact Or.inl ⟨rfl, rfl⟩ | exact Or.inr ⟨rfl, rfl⟩) (m_yardNow (d + 1) n c v (th_u u k j) yd s7 hRn hM_8 hB hyd hybt hyct) ?_
            refine w_blk 4 (pc' := 107) (ls' := [some (.ref 53), some (.int (nI k)), some (.int (nI j)), some (.int (nI yd)), none, none]) (sk' := [.int (nI k), .ref 56]) (st' := s7) (fun _ h => h) ?_
            refine w_iald rfl rfl (vp_in_nI (n := k) (N := 12) (by omega) (by decide)) ?_
            rw [nI_clamp (show k < 2 ^ 31 by omega)]
            rw [(hRn.2.2.2.1 k (by omega)).1]
            refine w_blk 3 (pc' := 113) (ls' := [some (.ref 53), some (.int (nI k)), some (.int (nI j)), some (.int (nI yd)), none, none]) (sk' := [.int (nI j), .ref 60, .int (nI (c 0 k))]) (st' := s7) (fun _ h => h) ?_
            refine w_iald rfl rfl (vp_in_nI (n := j) (N := 16) (by omega) (by decide)) ?_
            rw [nI_clamp (show j < 2 ^ 31 by omega)]
            rw [(hRn.2.2.2.2.1 j (by omega)).1]
            refine w_blk 1 (pc' := 115) (ls' := [some (.ref 53), some (.int (nI k)), some (.int (nI j)), some (.int (nI yd)), none, none]) (sk' := [.int ((nI (c 0 k)) * (nI (c 3 j)))]) (st' := s7) (fun _ h => h) ?_
            rw [show ((nI (c 0 k)) * (nI (c 3 j))) = nI ((c 0 k) * (c 3 j)) from pk_mul (c 0 k) (c 3 j)]
            refine w_blk 5 (pc' := 123) (ls' := [some (.ref 53), some (.int (nI k)), some (.int (nI j)), some (.int (nI yd)), some (.int (nI ((c 0 k) * (c 3 j)))), none]) (sk' := [.int 0, .ref 62, .int (nI yd)]) (st' := s7) (fun _ h => h) ?_
            refine w_iald rfl rfl (vp_in_nI (n := 0) (N := 2) (by decide) (by decide)) ?_
            rw [show Int32.toNatClampNeg (0 : Int32) = 0 from rfl]
            rw [hRn.2.2.1]
            refine w_cmp_ge rfl (fun h8 => ?_) (fun h8 => ?_)
            · replace h8 : n 2 ≤ yd := (nI_leI (a := (n 2)) (b := yd) (by omega) (by omega)).mp h8
              refine w_blk 1 (pc' := 224) (ls' := [some (.ref 53), some (.int (nI k)), some (.int (nI j)), some (.int (nI yd)), some (.int (nI ((c 0 k) * (c 3 j)))), none]) (sk' := [.int (nI ((c 0 k) * (c 3 j)))]) (st' := s7) (fun _ h => h) ?_
              rw [show tw_v n c v u yd (nI k) (nI j) = dg_v n c v (th_u u k j) yd (th_e n c yd k j) by unfold tw_v; rw [if_pos hyes, nI_clamp (show k < 2 ^ 31 by omega), nI_clamp (show j < 2 ^ 31 by omega)], show tw_u n c u yd (nI k) (nI j) = dg_u n c (th_u u k j) yd (th_e n c yd k j) by unfold tw_u; rw [if_pos hyes, nI_clamp (show k < 2 ^ 31 by omega), nI_clamp (show j < 2 ^ 31 by omega)], show sp_throw n c u yd (nI k) (nI j) = nI (th_e n c yd k j) by unfold sp_throw; rw [if_pos (nI_in3 (by omega) hk), if_pos (nI_in3 (by omega) hj), nI_clamp (show k < 2 ^ 31 by omega), nI_clamp (show j < 2 ^ 31 by omega), if_pos hcan]] at hq
              rw [show th_e n c yd k j = c 0 k * c 3 j from if_neg (by omega)] at hq
              exact w_iret rfl rfl rfl (hq _ ⟨by unfold dg_v dg_u; rw [if_neg (by omega), if_neg (by omega)]; exact hM_8, hf_9⟩)
            · replace h8 : ¬ (n 2 ≤ yd) := fun hh => h8 ((nI_leI (a := (n 2)) (b := yd) (by omega) (by omega)).mpr hh)
              have hy2 : yd < n 2 := by omega
              have h6s := (hby yd hy2).2.2
              have hdp := (hby yd hy2).2.1
              have hz := hybt hy2
              have hdv : c 0 k * c 3 j / c 6 yd ≤ c 0 k * c 3 j := Nat.div_le_self _ _
              have hte : th_e n c yd k j = max 1 (c 0 k * c 3 j / c 6 yd) := if_pos hy2
              rw [show tw_v n c v u yd (nI k) (nI j) = dg_v n c v (th_u u k j) yd (th_e n c yd k j) by unfold tw_v; rw [if_pos hyes, nI_clamp (show k < 2 ^ 31 by omega), nI_clamp (show j < 2 ^ 31 by omega)], show tw_u n c u yd (nI k) (nI j) = dg_u n c (th_u u k j) yd (th_e n c yd k j) by unfold tw_u; rw [if_pos hyes, nI_clamp (show k < 2 ^ 31 by omega), nI_clamp (show j < 2 ^ 31 by omega)], show sp_throw n c u yd (nI k) (nI j) = nI (th_e n c yd k j) by unfold sp_throw; rw [if_pos (nI_in3 (by omega) hk), if_pos (nI_in3 (by omega) hj), nI_clamp (show k < 2 ^ 31 by omega), nI_clamp (show j < 2 ^ 31 by omega), if_pos hcan]] at hq
              have J : mW (mMC mT (d + 2)) (0, fun _ => 0) (mAtL P_X10_throwWith) (some .int) Q 153 [some (.ref 53), some (.int (nI k)), some (.int (nI j)), some (.int (nI yd)), some (.int (nI ((c 0 k) * (c 3 j)))), none] [.int (nI (th_e n c yd k j))] s7 := by
                refine w_blk 4 (pc' := 160) (ls' := [some (.ref 53), some (.int (nI k)), some (.int (nI j)), some (.int (nI yd)), some (.int (nI (th_e n c yd k j))), none]) (sk' := [.int (nI yd), .ref 63]) (st' := s7) (fun _ h => h) ?_
                refine w_iald rfl rfl (vp_in_nI (n := yd) (N := 16) (by omega) (by decide)) ?_
                rw [nI_clamp (show yd < 2 ^ 31 by omega)]
                rw [(hRn.2.2.2.2.2 yd (by omega)).1]
                refine w_blk 5 (pc' := 169) (ls' := [some (.ref 53), some (.int (nI k)), some (.int (nI j)), some (.int (nI yd)), some (.int (nI (th_e n c yd k j))), none]) (sk' := [.int (12 + (nI yd)), .ref 65, .int (nI (c 5 yd))]) (st' := s7) (fun _ h => h) ?_
                rw [show (12 + (nI yd)) = nI (12 + yd) from nI_add 12 yd]
                refine w_iald rfl rfl (vp_in_nI (n := (12 + yd)) (N := 60) (by omega) (by decide)) ?_
                rw [nI_clamp (show (12 + yd) < 2 ^ 31 by omega)]
                rw [hM_8.2 (12 + yd) (by omega) (by omega)]
                refine w_blk 1 (pc' := 171) (ls' := [some (.ref 53), some (.int (nI k)), some (.int (nI j)), some (.int (nI yd)), some (.int (nI (th_e n c yd k j))), none]) (sk' := [.int ((nI (c 5 yd)) - (nI (th_u u k j (12 + yd))))]) (st' := s7) (fun _ h => h) ?_
                rw [show ((nI (c 5 yd)) - (nI (th_u u k j (12 + yd)))) = nI ((c 5 yd) - (th_u u k j (12 + yd))) from pk_sub (a := c 5 yd) (b := th_u u k j (12 + yd)) (by omega)]
                refine w_blk 6 (pc' := 181) (ls' := [some (.ref 53), some (.int (nI k)), some (.int (nI j)), some (.int (nI yd)), some (.int (nI (th_e n c yd k j))), some (.int (nI ((c 5 yd) - (th_u u k j (12 + yd)))))]) (sk' := [.int (12 + (nI yd)), .ref 65]) (st' := s7) (fun _ h => h) ?_
                rw [show (12 + (nI yd)) = nI (12 + yd) from nI_add 12 yd]
                refine w_blk 1 (pc' := 182) (ls' := [some (.ref 53), some (.int (nI k)), some (.int (nI j)), some (.int (nI yd)), some (.int (nI (th_e n c yd k j))), some (.int (nI ((c 5 yd) - (th_u u k j (12 + yd)))))]) (sk' := [.int (nI (12 + yd)), .ref 65, .int (nI (12 + yd)), .ref 65]) (st' := s7) (fun _ h => h) ?_
                refine w_iald rfl rfl (vp_in_nI (n := (12 + yd)) (N := 60) (by omega) (by decide)) ?_
                rw [nI_clamp (show (12 + yd) < 2 ^ 31 by omega)]
                rw [hM_8.2 (12 + yd) (by omega) (by omega)]
                refine w_blk 2 (pc' := 187) (ls' := [some (.ref 53), some (.int (nI k)), some (.int (nI j)), some (.int (nI yd)), some (.int (nI (th_e n c yd k j))), some (.int (nI ((c 5 yd) - (th_u u k j (12 + yd)))))]) (sk' := [.int (nI ((c 5 yd) - (th_u u k j (12 + yd)))), .int (nI (th_e n c yd k j)), .int (nI (th_u u k j (12 + yd))), .int (nI (12 + yd)), .ref 65]) (st' := s7) (fun _ h => h) ?_
                have hmin : dg_a c (th_u u k j) yd (th_e n c yd k j) = th_u u k j (12 + yd) + min (th_e n c yd k j) (c 5 yd - th_u u k j (12 + yd)) := by unfold dg_a; omega
                have J2 : mW (mMC mT (d + 2)) (0, fun _ => 0) (mAtL P_X10_throwWith) (some .int) Q 197 [some (.ref 53), some (.int (nI k)), some (.int (nI j)), some (.int (nI yd)), some (.int (nI (th_e n c yd k j))), some (.int (nI ((c 5 yd) - (th_u u k j (12 + yd)))))] [.int (nI (min (th_e n c yd k j) (c 5 yd - th_u u k j (12 + yd)))), .int (nI (th_u u k j (12 + yd))), .int (nI (12 + yd)), .ref 65] s7 := by
                  refine w_blk 1 (pc' := 198) (ls' := [some (.ref 53), some (.int (nI k)), some (.int (nI j)), some (.int (nI yd)), some (.int (nI (th_e n c yd k j))), some (.int (nI ((c 5 yd) - (th_u u k j (12 + yd)))))]) (sk' := [.int ((nI (th_u u k j (12 + yd))) + (nI (min (th_e n c yd k j) (c 5 yd - th_u u k j (12 + yd))))), .int (nI (12 + yd)), .ref 65]) (st' := s7) (fun _ h => h) ?_
                  rw [show ((nI (th_u u k j (12 + yd))) + (nI (min (th_e n c yd k j) (c 5 yd - th_u u k j (12 + yd))))) = nI ((th_u u k j (12 + yd)) + (min (th_e n c yd k j) (c 5 yd - th_u u k j (12 + yd)))) from nI_add (th_u u k j (12 + yd)) (min (th_e n c yd k j) (c 5 yd - th_u u k j (12 + yd)))]
                  refine w_iast rfl rfl (vp_in_nI (n := (12 + yd)) (N := 60) (by omega) (by decide)) ?_
                  rw [nI_clamp (show (12 + yd) < 2 ^ 31 by omega)]
                  have hM_11 : NM0 ((mU s7.1 65 (12 + yd) (nI ((th_u u k j (12 + yd)) + (min (th_e n c yd k j) (c 5 yd - th_u u k j (12 + yd)))))), s7.2) v (dg_u n c (th_u u k j) yd (th_e n c yd k j)) := (by have hh := NM0_u hM_8 (12 + yd) (th_u u k j (12 + yd) + (min (th_e n c yd k j) (c 5 yd - th_u u k j (12 + yd)))) (by omega); rw [show dg_u n c (th_u u k j) yd (th_e n c yd k j) = updN (th_u u k j) (12 + yd) (th_u u k j (12 + yd) + (min (th_e n c yd k j) (c 5 yd - th_u u k j (12 + yd)))) from (if_pos hy2).trans (by rw [hmin])]; exact hh)
                  have hf_12 : F5 st ((mU s7.1 65 (12 + yd) (nI ((th_u u k j (12 + yd)) + (min (th_e n c yd k j) (c 5 yd - th_u u k j (12 + yd)))))), s7.2) := (F5.w hf_9 (by omega))
                  generalize ((mU s7.1 65 (12 + yd) (nI ((th_u u k j (12 + yd)) + (min (th_e n c yd k j) (c 5 yd - th_u u k j (12 + yd)))))), s7.2) = s10 at hM_11 hf_12 ⊢
                  refine w_blk 4 (pc' := 205) (ls' := [some (.ref 53), some (.int (nI k)), some (.int (nI j)), some (.int (nI yd)), some (.int (nI (th_e n c yd k j))), some (.int (nI ((c 5 yd) - (th_u u k j (12 + yd)))))]) (sk' := [.int 2, .ref 65, .int 2, .ref 65]) (st' := s10) (fun _ h => h) ?_
                  refine w_iald rfl rfl (vp_in_nI (n := 2) (N := 60) (by decide) (by decide)) ?_
                  rw [show Int32.toNatClampNeg (2 : Int32) = 2 from rfl]
                  rw [hM_11.1 2 (by omega)]
                  refine w_blk 2 (pc' := 210) (ls' := [some (.ref 53), some (.int (nI k)), some (.int (nI j)), some (.int (nI yd)), some (.int (nI (th_e n c yd k j))), some (.int (nI ((c 5 yd) - (th_u u k j (12 + yd)))))]) (sk' := [.int (nI ((c 5 yd) - (th_u u k j (12 + yd)))), .int (nI (th_e n c yd k j)), .int (v 2), .int 2, .ref 65]) (st' := s10) (fun _ h => h) ?_
                  have J3 : mW (mMC mT (d + 2)) (0, fun _ => 0) (mAtL P_X10_throwWith) (some .int) Q 220 [some (.ref 53), some (.int (nI k)), some (.int (nI j)), some (.int (nI yd)), some (.int (nI (th_e n c yd k j))), some (.int (nI ((c 5 yd) - (th_u u k j (12 + yd)))))] [.int (nI (min (th_e n c yd k j) (c 5 yd - th_u u k j (12 + yd)))), .int (v 2), .int 2, .ref 65] s10 := by
                    refine w_blk 1 (pc' := 221) (ls' := [some (.ref 53), some (.int (nI k)), some (.int (nI j)), some (.int (nI yd)), some (.int (nI (th_e n c yd k j))), some (.int (nI ((c 5 yd) - (th_u u k j (12 + yd)))))]) (sk' := [.int ((v 2) + (nI (min (th_e n c yd k j) (c 5 yd - th_u u k j (12 + yd))))), .int 2, .ref 65]) (st' := s10) (fun _ h => h) ?_
                    refine w_iast rfl rfl (vp_in_nI (n := 2) (N := 60) (by decide) (by decide)) ?_
                    rw [show Int32.toNatClampNeg (2 : Int32) = 2 from rfl]
                    have hM_14 : NM0 ((mU s10.1 65 2 ((v 2) + (nI (min (th_e n c yd k j) (c 5 yd - th_u u k j (12 + yd)))))), s10.2) (dg_v n c v (th_u u k j) yd (th_e n c yd k j)) (dg_u n c (th_u u k j) yd (th_e n c yd k j)) := (by have hh := NM0_v hM_11 2 (v 2 + nI (min (th_e n c yd k j) (c 5 yd - th_u u k j (12 + yd)))) (by decide); rw [show dg_v n c v (th_u u k j) yd (th_e n c yd k j) = updI v 2 (v 2 + nI (min (th_e n c yd k j) (c 5 yd - th_u u k j (12 + yd)))) from (if_pos hy2).trans (by rw [hmin, Nat.add_sub_cancel_left])]; exact hh)
                    have hf_15 : F5 st ((mU s10.1 65 2 ((v 2) + (nI (min (th_e n c yd k j) (c 5 yd - th_u u k j (12 + yd)))))), s10.2) := (F5.w hf_12 (by omega))
                    generalize ((mU s10.1 65 2 ((v 2) + (nI (min (th_e n c yd k j) (c 5 yd - th_u u k j (12 + yd)))))), s10.2) = s13 at hM_14 hf_15 ⊢
                    refine w_blk 1 (pc' := 224) (ls' := [some (.ref 53), some (.int (nI k)), some (.int (nI j)), some (.int (nI yd)), some (.int (nI (th_e n c yd k j))), some (.int (nI ((c 5 yd) - (th_u u k j (12 + yd)))))]) (sk' := [.int (nI (th_e n c yd k j))]) (st' := s13) (fun _ h => h) ?_
                    exact w_iret rfl rfl rfl (hq _ ⟨hM_14, hf_15⟩)
                  refine w_cmp_ge rfl (fun h9 => ?_) (fun h9 => ?_)
                  · replace h9 : (c 5 yd) - (th_u u k j (12 + yd)) ≤ th_e n c yd k j := (nI_leI (a := ((c 5 yd) - (th_u u k j (12 + yd)))) (b := (th_e n c yd k j)) (by omega) (by omega)).mp h9
                    refine w_blk 1 (pc' := 220) (ls' := [some (.ref 53), some (.int (nI k)), some (.int (nI j)), some (.int (nI yd)), some (.int (nI (th_e n c yd k j))), some (.int (nI ((c 5 yd) - (th_u u k j (12 + yd)))))]) (sk' := [.int (nI ((c 5 yd) - (th_u u k j (12 + yd)))), .int (v 2), .int 2, .ref 65]) (st' := s10) (fun _ h => h) ?_
                    exact (by have hh := J3; rw [show min (th_e n c yd k j) (c 5 yd - th_u u k j (12 + yd)) = c 5 yd - th_u u k j (12 + yd) by omega] at hh; exact hh)
                  · replace h9 : ¬ ((c 5 yd) - (th_u u k j (12 + yd)) ≤ th_e n c yd k j) := fun hh => h9 ((nI_leI (a := ((c 5 yd) - (th_u u k j (12 + yd)))) (b := (th_e n c yd k j)) (by omega) (by omega)).mpr hh)
                    refine w_blk 2 (pc' := 220) (ls' := [some (.ref 53), some (.int (nI k)), some (.int (nI j)), some (.int (nI yd)), some (.int (nI (th_e n c yd k j))), some (.int (nI ((c 5 yd) - (th_u u k j (12 + yd)))))]) (sk' := [.int (nI (th_e n c yd k j)), .int (v 2), .int 2, .ref 65]) (st' := s10) (fun _ h => h) ?_
                    exact (by have hh := J3; rw [show min (th_e n c yd k j) (c 5 yd - th_u u k j (12 + yd)) = th_e n c yd k j by omega] at hh; exact hh)
                refine w_cmp_ge rfl (fun h9 => ?_) (fun h9 => ?_)
                · replace h9 : (c 5 yd) - (th_u u k j (12 + yd)) ≤ th_e n c yd k j := (nI_leI (a := ((c 5 yd) - (th_u u k j (12 + yd)))) (b := (th_e n c yd k j)) (by omega) (by omega)).mp h9
                  refine w_blk 1 (pc' := 197) (ls' := [some (.ref 53), some (.int (nI k)), some (.int (nI j)), some (.int (nI yd)), some (.int (nI (th_e n c yd k j))), some (.int (nI ((c 5 yd) - (th_u u k j (12 + yd)))))]) (sk' := [.int (nI ((c 5 yd) - (th_u u k j (12 + yd)))), .int (nI (th_u u k j (12 + yd))), .int (nI (12 + yd)), .ref 65]) (st' := s7) (fun _ h => h) ?_
                  exact (by have hh := J2; rw [show min (th_e n c yd k j) (c 5 yd - th_u u k j (12 + yd)) = c 5 yd - th_u u k j (12 + yd) by omega] at hh; exact hh)
                · replace h9 : ¬ ((c 5 yd) - (th_u u k j (12 + yd)) ≤ th_e n c yd k j) := fun hh => h9 ((nI_leI (a := ((c 5 yd) - (th_u u k j (12 + yd)))) (b := (th_e n c yd k j)) (by omega) (by omega)).mpr hh)
                  refine w_blk 2 (pc' := 197) (ls' := [some (.ref 53), some (.int (nI k)), some (.int (nI j)), some (.int (nI yd)), some (.int (nI (th_e n c yd k j))), some (.int (nI ((c 5 yd) - (th_u u k j (12 + yd)))))]) (sk' := [.int (nI (th_e n c yd k j)), .int (nI (th_u u k j (12 + yd))), .int (nI (12 + yd)), .ref 65]) (st' := s7) (fun _ h => h) ?_
                  exact (by have hh := J2; rw [show min (th_e n c yd k j) (c 5 yd - th_u u k j (12 + yd)) = th_e n c yd k j by omega] at hh; exact hh)
              refine w_blk 4 (pc' := 134) (ls' := [some (.ref 53), some (.int (nI k)), some (.int (nI j)), some (.int (nI yd)), some (.int (nI ((c 0 k) * (c 3 j)))), none]) (sk' := [.int (nI yd), .ref 64, .int (nI ((c 0 k) * (c 3 j)))]) (st' := s7) (fun _ h => h) ?_
              refine w_iald rfl rfl (vp_in_nI (n := yd) (N := 16) (by omega) (by decide)) ?_
              rw [nI_clamp (show yd < 2 ^ 31 by omega)]
              rw [(hRn.2.2.2.2.2 yd (by omega)).2]
              refine w_div rfl (nI_ne0 (n := c 6 yd) (by omega) (by omega)) ?_
              rw [show ((nI ((c 0 k) * (c 3 j))) / (nI (c 6 yd))) = nI (((c 0 k) * (c 3 j)) / (c 6 yd)) from pk_div (by omega) (by omega) (by omega)]
              refine w_blk 1 (pc' := 137) (ls' := [some (.ref 53), some (.int (nI k)), some (.int (nI j)), some (.int (nI yd)), some (.int (nI ((c 0 k) * (c 3 j)))), none]) (sk' := [.int 1, .int (nI (((c 0 k) * (c 3 j)) / (c 6 yd)))]) (st' := s7) (fun _ h => h) ?_
              refine w_cmp_ge rfl (fun h9 => ?_) (fun h9 => ?_)
              · replace h9 : 1 ≤ ((c 0 k) * (c 3 j)) / (c 6 yd) := (nI_leI (a := 1) (b := (((c 0 k) * (c 3 j)) / (c 6 yd))) (by omega) (by omega)).mp h9
                refine w_blk 4 (pc' := 151) (ls' := [some (.ref 53), some (.int (nI k)), some (.int (nI j)), some (.int (nI yd)), some (.int (nI ((c 0 k) * (c 3 j)))), none]) (sk' := [.int (nI yd), .ref 64, .int (nI ((c 0 k) * (c 3 j)))]) (st' := s7) (fun _ h => h) ?_
                refine w_iald rfl rfl (vp_in_nI (n := yd) (N := 16) (by omega) (by decide)) ?_
                rw [nI_clamp (show yd < 2 ^ 31 by omega)]
                rw [(hRn.2.2.2.2.2 yd (by omega)).2]
                refine w_div rfl (nI_ne0 (n := c 6 yd) (by omega) (by omega)) ?_
                rw [show ((nI ((c 0 k) * (c 3 j))) / (nI (c 6 yd))) = nI (((c 0 k) * (c 3 j)) / (c 6 yd)) from pk_div (by omega) (by omega) (by omega)]
                exact (by have hh := J; rw [show th_e n c yd k j = c 0 k * c 3 j / c 6 yd by omega] at hh; exact hh)
              · replace h9 : ¬ (1 ≤ ((c 0 k) * (c 3 j)) / (c 6 yd)) := fun hh => h9 ((nI_leI (a := 1) (b := (((c 0 k) * (c 3 j)) / (c 6 yd))) (by omega) (by omega)).mpr hh)
                refine w_blk 2 (pc' := 153) (ls' := [some (.ref 53), some (.int (nI k)), some (.int (nI j)), some (.int (nI yd)), some (.int (nI ((c 0 k) * (c 3 j)))), none]) (sk' := [.int 1]) (st' := s7) (fun _ h => h) ?_
                exact (by have hh := J; rw [show th_e n c yd k j = 1 by omega] at hh; exact hh)
          · replace h7 := pI_eq1.mp (Decidable.not_not.mp h7)
            refine w_blk 1 (pc' := 57) (ls' := [some (.ref 53), some (.int (nI k)), some (.int (nI j)), none, none, none]) (sk' := [.int (-2)]) (st' := st) (fun _ h => h) ?_
            have h3 : ¬ canP c u k j := fun h => absurd h7 (tb_false.mpr h.2.2)
            have hno : ¬ thC n c u (nI k) (nI j) := fun h => h3 ((thC_iff (by omega) (by omega) hk hj).mp h)
            rw [show tw_v n c v u yd (nI k) (nI j) = v from if_neg hno, show tw_u n c u yd (nI k) (nI j) = u from if_neg hno, show sp_throw n c u yd (nI k) (nI j) = -2 from by unfold sp_throw; rw [if_pos (nI_in3 (by omega) hk), if_pos (nI_in3 (by omega) hj), nI_clamp (show k < 2 ^ 31 by omega), nI_clamp (show j < 2 ^ 31 by omega), if_neg h3]] at hq
            exact w_iret rfl rfl rfl (hq _ ⟨hM, F5.rf⟩)
    · replace h2 := pI_eq0.mp (Decidable.not_not.mp h2)
      refine w_blk 1 (pc' := 17) (ls' := [some (.ref 53), some (.int (nI k)), some (.int y), none, none, none]) (sk' := [.int (-1)]) (st' := st) (fun _ h => h) ?_
      have hno : ¬ thC n c u (nI k) y := fun h => h2 h.2.1
      rw [show tw_v n c v u yd (nI k) y = v from if_neg hno, show tw_u n c u yd (nI k) y = u from if_neg hno, show sp_throw n c u yd (nI k) y = -1 from (if_pos (nI_in3 (by omega) hk)).trans (if_neg h2)] at hq
      exact w_iret rfl rfl rfl (hq _ ⟨hM, F5.rf⟩)
theorem NB_0 {n : Nat → Nat} {c : Nat → Nat → Nat} (hB : CB n c) : NB n c (fun _ => 0) 0 := ⟨fun _ _ _ => (by decide : 0 < 256), Nat.zero_le _, fun y _ => ⟨fun h => absurd h (Nat.not_lt_zero _), fun e h => by
  rw [e] at h ⊢
  have := hB.2.2.2.2.2 0 h
  show 0 < c 5 0
  omega, fun _ => rfl⟩⟩
theorem NB_y {n : Nat → Nat} {c : Nat → Nat → Nat} {u : Nat → Nat} {yd : Nat} (hB : CB n c) (h : NB n c u yd) : (yd < n 2 → u (12 + yd) < c 5 yd) ∧ ∀ y, y < yd → u (12 + y) = c 5 y := by
  have h2 := hB.2.2.1
  have h3 := h.2.1
  exact ⟨fun q => (h.2.2 yd (by omega)).2.1 rfl q, fun y hy => (h.2.2 y (by omega)).1 hy⟩
theorem NB_en {n : Nat → Nat} {c : Nat → Nat → Nat} {u : Nat → Nat} {yd : Nat} (h : NB n c u yd) : NB n c (en_u u) yd := by
  have e : ∀ y, en_u u (12 + y) = u (12 + y) := fun y => (updN_n (by omega)).trans (updN_n (by omega))
  refine ⟨fun j h3 hj => ?_, h.2.1, fun y hy => ?_⟩
  · unfold en_u updN
    have := h.1 j h3 hj
    split
    · decide
    · split
      · decide
      · exact this
  · rw [e]
    exact h.2.2 y hy
theorem NB_br {n : Nat → Nat} {c : Nat → Nat → Nat} {u : Nat → Nat} {yd : Nat} {x : Int32} (hB : CB n c) (h : NB n c u yd) : NB n c (br_u n u x) yd := by
  unfold br_u
  split
  · rename_i hok
    obtain ⟨k, hk, rfl⟩ := nI_in2 (show n 1 < 2 ^ 31 by have := hB.2.1; omega) hok
    rw [nI_clamp (show k < 2 ^ 31 by have := hB.2.1; omega)]
    refine ⟨fun j h3 hj => ?_, h.2.1, fun y hy => ?_⟩
    · by_cases e : j = 5
      · rw [e, updN_s]
        have h5 : u 5 < 2 ^ 8 := h.1 5 (by decide) (by decide)
        exact or_lt h5 (show k < 8 by have := hB.2.1; omega)
      · rw [updN_n e]
        exact h.1 j h3 hj
    · rw [updN_n (by omega)]
      exact h.2.2 y hy
  · exact h
theorem NB_dg {n : Nat → Nat} {c : Nat → Nat → Nat} {u : Nat → Nat} {yd e : Nat} (hB : CB n c) (h : NB n c u yd) : NB n c (dg_u n c u yd e) (dg_y n c u yd e) := by
  have h2 := hB.2.2.1
  have hyd := h.2.1
  unfold dg_u dg_y
  by_cases hy : yd < n 2
  · rw [if_pos hy, if_pos hy]
    have hd : dg_a c u yd e ≤ c 5 yd := Nat.min_le_right _ _
    refine ⟨fun j h3 hj => by rw [updN_n (by omega)]; exact h.1 j h3 hj, by split <;> omega, fun y hy8 => ?_⟩
    have hold := h.2.2 y hy8
    by_cases ey : y = yd
    · rw [ey, updN_s]
      split
      · rename_i hf
        exact ⟨fun _ => hf, fun q => absurd q (by omega), fun q => absurd q (by omega)⟩
      · rename_i hf
        exact ⟨fun q => absurd q (by omega), fun _ _ => by omega, fun q => absurd q (by omega)⟩
    · rw [updN_n (by omega)]
      split
      · refine ⟨fun q => hold.1 (by omega), fun q q2 => ?_, fun q => hold.2.2 (by omega)⟩
        have hz := hold.2.2 (by omega)
        have := hB.2.2.2.2.2 y q2
        omega
      · exact ⟨fun q => hold.1 q, fun q => absurd q ey, fun q => hold.2.2 q⟩
  · rw [if_neg hy, if_neg hy]
    exact h
theorem NB_tw {n : Nat → Nat} {c : Nat → Nat → Nat} {u : Nat → Nat} {yd : Nat} {x y : Int32} (hB : CB n c) (h : NB n c u yd) : NB n c (tw_u n c u yd x y) (tw_y n c u yd x y) := by
  unfold tw_u tw_y
  split
  · rename_i hc
    obtain ⟨hx, hy, -⟩ := hc
    have b0 := hB.1
    have b1 := hB.2.1
    obtain ⟨k, hk, rfl⟩ := nI_in2 (show n 0 < 2 ^ 31 by omega) hx
    obtain ⟨j, hj, rfl⟩ := nI_in2 (show n 1 < 2 ^ 31 by omega) hy
    rw [nI_clamp (show k < 2 ^ 31 by omega), nI_clamp (show j < 2 ^ 31 by omega)]
    refine NB_dg hB ⟨th_u_bd b0 b1 hk hj h.1, h.2.1, fun y hy => ?_⟩
    rw [th_u_out (by omega)]
    exact h.2.2 y hy
  · exact h
theorem HBd_add {a : Nat} {T C U : Nat → Nat} {t c u : Int32} (h : HBd a T C U) : HBd (hl_a a t c u) (updN T a t.toNatClampNeg) (updN C a c.toNatClampNeg) (updN U a u.toNatClampNeg) := by
  obtain ⟨ha, hk⟩ := h
  unfold hl_a
  split
  · rename_i hc
    obtain ⟨⟨h1, h2, h3⟩, h8⟩ := hc
    obtain ⟨t', -, ht, rfl⟩ := nI_within (a := 0) (b := 99) h1 (by decide) (by decide)
    obtain ⟨c', hc1, hc2, rfl⟩ := nI_within (a := 1) (b := 99) h2 (by decide) (by decide)
    obtain ⟨u', hu1, hu2, rfl⟩ := nI_within (a := t') (b := 200) h3 (by omega) (by decide)
    rw [nI_clamp (show t' < 2 ^ 31 by omega), nI_clamp (show c' < 2 ^ 31 by omega), nI_clamp (show u' < 2 ^ 31 by omega)]
    refine ⟨by omega, fun k hk2 => ?_⟩
    by_cases e : k = a
    · rw [e, updN_s, updN_s, updN_s]
      exact ⟨ht, hc1, hc2, hu1, hu2⟩
    · rw [updN_n e, updN_n e, updN_n e]
      exact hk k (by omega)
  · refine ⟨ha, fun k hk2 => ?_⟩
    rw [updN_n (by omega), updN_n (by omega), updN_n (by omega)]
    exact hk k hk2
theorem TB_add {n : Nat → Nat} {a : Nat} {T C U : Nat → Nat} {t c u : Int32} (b0 : n 0 ≤ 6) (b1 : n 1 ≤ 8) (h : TB a T C U) : TB (tl_a n a t c u) (updN T a t.toNatClampNeg) (updN C a c.toNatClampNeg) (updN U a u.toNatClampNeg) := by
  obtain ⟨ha, hk⟩ := h
  unfold tl_a
  split
  · rename_i hc
    obtain ⟨⟨h1, h2, h3⟩, h8⟩ := hc
    obtain ⟨t', -, ht, rfl⟩ := nI_within (a := 0) (b := 99) h1 (by decide) (by decide)
    obtain ⟨c', hc1, rfl⟩ := nI_in2 (show n 0 < 2 ^ 31 by omega) h2
    obtain ⟨u', hu1, rfl⟩ := nI_in2 (show n 1 < 2 ^ 31 by omega) h3
    rw [nI_clamp (show t' < 2 ^ 31 by omega), nI_clamp (show c' < 2 ^ 31 by omega), nI_clamp (show u' < 2 ^ 31 by omega)]
    refine ⟨by omega, fun k hk2 => ?_⟩
    by_cases e : k = a
    · rw [e, updN_s, updN_s, updN_s]
      exact ⟨ht, by omega, by omega⟩
    · rw [updN_n e, updN_n e, updN_n e]
      exact hk k (by omega)
  · refine ⟨ha, fun k hk2 => ?_⟩
    rw [updN_n (by omega), updN_n (by omega), updN_n (by omega)]
    exact hk k hk2
/-- what a call may change, with the two objects' own cells by their fields -/
def KP (S K0 K53 : List Nat) (st s : mSt) : Prop := Fr S st s ∧ Fk 0 K0 st s ∧ Fk 53 K53 st s
theorem KP.of {S : List Nat} {st s : mSt} (h : Fr S st s) (h0 : 0 ∉ S) (h53 : 53 ∉ S) : KP S [] [] st s := ⟨h, Fk.fr h h0, Fk.fr h h53⟩
theorem KP.of53 {S K : List Nat} {st s : mSt} (h : Fr S st s) (hk : Fk 53 K st s) (h0 : 0 ∉ S) : KP S [] K st s := ⟨h, Fk.fr h h0, hk⟩
theorem KP.of0 {S K : List Nat} {st s : mSt} (h : Fr S st s) (hk : Fk 0 K st s) (h53 : 53 ∉ S) : KP S K [] st s := ⟨h, hk, Fk.fr h h53⟩
theorem KP.trans {S K0 K53 S2 J0 J53 : List Nat} {a b c : mSt} (h1 : KP S K0 K53 a b) (h2 : KP S2 J0 J53 b c) : KP (S ++ S2) (K0 ++ J0) (K53 ++ J53) a c := by
  refine ⟨Fr.trans (Fr.mono h1.1 (fun p hp => List.mem_append_left _ hp)) (Fr.mono h2.1 (fun p hp => List.mem_append_right _ hp)), fun j hj => ?_, fun j hj => ?_⟩
  · exact (h2.2.1 j (fun q => hj (List.mem_append_right _ q))).trans (h1.2.1 j (fun q => hj (List.mem_append_left _ q)))
  · exact (h2.2.2 j (fun q => hj (List.mem_append_right _ q))).trans (h1.2.2 j (fun q => hj (List.mem_append_left _ q)))
def IC (st : mSt) (g : Nat) (n : Nat → Nat) (c : Nat → Nat → Nat) : Prop := ((g = 5 ∧ st.1 0 1 = nI 5 ∧ st.1 0 2 = nI 13 ∧ X5 st n c) ∨ (g = 13 ∧ st.1 0 1 = nI 13 ∧ st.1 0 2 = nI 5 ∧ X13 st n c)) ∧ CB n c ∧ MR st n c
def INn (st : mSt) (n : Nat → Nat) (c : Nat → Nat → Nat) (v : Nat → Int32) (u : Nat → Nat) (yd : Nat) : Prop := N21 st v u yd ∧ NM0 st v u ∧ NB n c u yd
def IT (st : mSt) : Prop := ∃ (L : Nat) (b : Nat → Nat), XS st L b ∧ MS st L b ∧ L ≤ 300 ∧ ∀ j, j < L → b j < 256
def II (st : mSt) (n : Nat → Nat) (c : Nat → Nat → Nat) : Prop := ∃ kb, kb < 4 ∧ st.1 0 5 = nI kb ∧ st.1 66 0 = pI (kb.testBit 0 = true) ∧ st.1 66 1 = pI (kb.testBit 1 = true) ∧ (kb.testBit 0 = true → ∃ (v : Nat → Int32) (u : Nat → Nat) (yd : Nat), N25 st v u yd ∧ NM1 st v u ∧ NB n c u yd) ∧ (kb.testBit 1 = true → ∃ (v : Nat → Int32) (u : Nat → Nat) (yd : Nat), N28 st v u yd ∧ NM2 st v u ∧ NB n c u yd)
def IH (st : mSt) : Prop := ∃ (a : Nat) (T C U : Nat → Nat), HBd a T C U ∧ XH st a T C U ∧ MH st a T C U
def ITo (st : mSt) : Prop := ∃ (a : Nat) (T C U : Nat → Nat), TB a T C U ∧ XT st a T C U ∧ MT st a T C U
def IL (st : mSt) : Prop := st.2 0 12 = st.2 53 0
def INV (st : mSt) : Prop := ∃ (g : Nat) (n : Nat → Nat) (c : Nat → Nat → Nat) (v : Nat → Int32) (u : Nat → Nat) (yd : Nat), IC st g n c ∧ INn st n c v u yd ∧ IT st ∧ II st n c ∧ IH st ∧ ITo st ∧ IFol st ∧ IL st
abbrev pC : List Nat := [5, 6, 7, 8, 9, 10, 11, 12, 13, 14, 15, 16, 17, 18, 19, 20, 55, 56, 57, 58, 59, 60, 61, 62, 63, 64]
abbrev pN : List Nat := [21, 22, 23, 65]
abbrev pT : List Nat := [1, 2, 54]
abbrev pI_ : List Nat := [25, 26, 27, 28, 29, 30, 65, 66]
abbrev pH : List Nat := [45, 46, 47, 48, 79, 80, 81]
abbrev pTo : List Nat := [49, 50, 51, 52, 83, 84, 85]
abbrev pF : List Nat := [31, 32]
theorem IC_k {S K0 K53 : List Nat} {st s : mSt} {g : Nat} {n : Nat → Nat} {c : Nat → Nat → Nat} (h : KP S K0 K53 st s) (hS : ∀ p, p ∈ pC → p ∉ S) (h0 : ∀ j, j ∈ [1, 2] → j ∉ K0) (hI : IC st g n c) : IC s g n c := by
  obtain ⟨h1, hB, hR⟩ := hI
  have e1 := h.2.1 1 (h0 1 (by decide))
  have e2 := h.2.1 2 (h0 2 (by decide))
  refine ⟨?_, hB, MR_fr h.1 (fun p hp => hS p ((show ∀ z, z ∈ [55, 59, 62, 56, 57, 58, 60, 61, 63, 64] → z ∈ pC by decide) p hp)) hR⟩
  rcases h1 with ⟨a, b, d, x⟩ | ⟨a, b, d, x⟩
  · exact Or.inl ⟨a, e1.trans b, e2.trans d, X5_fr h.1 (fun p hp => hS p ((show ∀ z, z ∈ [5, 6, 7, 8, 9, 10, 11, 12] → z ∈ pC by decide) p hp)) x⟩
  · exact Or.inr ⟨a, e1.trans b, e2.trans d, X13_fr h.1 (fun p hp => hS p ((show ∀ z, z ∈ [13, 14, 15, 16, 17, 18, 19, 20] → z ∈ pC by decide) p hp)) x⟩
theorem INn_k {S : List Nat} {st s : mSt} {n : Nat → Nat} {c : Nat → Nat → Nat} {v : Nat → Int32} {u : Nat → Nat} {yd : Nat} (h : Fr S st s) (hS : ∀ p, p ∈ pN → p ∉ S) (hI : INn st n c v u yd) : INn s n c v u yd := ⟨N21_fr h (fun p hp => hS p ((show ∀ z, z ∈ [21, 22, 23] → z ∈ pN by decide) p hp)) hI.1, NM0_fr h (fun p hp => hS p ((show ∀ z, z ∈ [65] → z ∈ pN by decide) p hp)) hI.2.1, hI.2.2⟩
theorem IT_k {S K0 K53 : List Nat} {st s : mSt} (h : KP S K0 K53 st s) (hS : ∀ p, p ∈ pT → p ∉ S) (h53 : 2 ∉ K53) (hI : IT st) : IT s := by
  obtain ⟨L, b, hX, hM, hL, hb⟩ := hI
  exact ⟨L, b, XS_fr h.1 (fun p hp => hS p ((show ∀ z, z ∈ [2] → z ∈ pT by decide) p hp)) (by rw [h.1.1 1 (hS 1 (by decide))]) hX, MS_fr h.1 (fun p hp => hS p ((show ∀ z, z ∈ [54] → z ∈ pT by decide) p hp)) (h.2.2 2 h53) hM, hL, hb⟩
theorem II_k {S K0 K53 : List Nat} {st s : mSt} {n : Nat → Nat} {c : Nat → Nat → Nat} (h : KP S K0 K53 st s) (hS : ∀ p, p ∈ pI_ → p ∉ S) (h0 : 5 ∉ K0) (hI : II st n c) : II s n c := by
  obtain ⟨kb, h4, hk, h6, h7, h8, h9⟩ := hI
  refine ⟨kb, h4, (h.2.1 5 h0).trans hk, by rw [h.1.1 66 (hS 66 (by decide))]; exact h6, by rw [h.1.1 66 (hS 66 (by decide))]; exact h7, fun q => ?_, fun q => ?_⟩
  · obtain ⟨v, u, yd, a, b, e⟩ := h8 q
    exact ⟨v, u, yd, N25_fr h.1 (fun p hp => hS p ((show ∀ z, z ∈ [25, 26, 27] → z ∈ pI_ by decide) p hp)) a, NM1_fr h.1 (fun p hp => hS p ((show ∀ z, z ∈ [65] → z ∈ pI_ by decide) p hp)) b, e⟩
  · obtain ⟨v, u, yd, a, b, e⟩ := h9 q
    exact ⟨v, u, yd, N28_fr h.1 (fun p hp => hS p ((show ∀ z, z ∈ [28, 29, 30] → z ∈ pI_ by decide) p hp)) a, NM2_fr h.1 (fun p hp => hS p ((show ∀ z, z ∈ [65] → z ∈ pI_ by decide) p hp)) b, e⟩
/-- the same where the model's NOW changes, but not its images -/
theorem II_5 {S K0 K53 : List Nat} {st s1 s : mSt} {n : Nat → Nat} {c : Nat → Nat → Nat} (h : KP S K0 K53 st s1) (hS : ∀ p, p ∈ pI_ → p ∉ S) (h0 : 5 ∉ K0) (h5 : F5 s1 s) (hI : II st n c) : II s n c := by
  obtain ⟨kb, h4, hk, h6, h7, h8, h9⟩ := II_k h hS h0 hI
  have e : ∀ p, p ≠ 65 → s.1 p = s1.1 p := fun p hp => h5.1.1 p (by simpa using hp)
  refine ⟨kb, h4, by rw [e 0 (by decide)]; exact hk, by rw [e 66 (by decide)]; exact h6, by rw [e 66 (by decide)]; exact h7, fun q => ?_, fun q => ?_⟩
  · obtain ⟨v, u, yd, a, b, e⟩ := h8 q
    exact ⟨v, u, yd, N25_fr h5.1 (by decide) a, h5.m1 b, e⟩
  · obtain ⟨v, u, yd, a, b, e⟩ := h9 q
    exact ⟨v, u, yd, N28_fr h5.1 (by decide) a, h5.m2 b, e⟩
theorem IH_k {S K0 K53 : List Nat} {st s : mSt} (h : KP S K0 K53 st s) (hS : ∀ p, p ∈ pH → p ∉ S) (h53 : 33 ∉ K53) (hI : IH st) : IH s := by
  obtain ⟨a, T, C, U, hB, hX, hM⟩ := hI
  exact ⟨a, T, C, U, hB, XH_fr h.1 (fun p hp => hS p ((show ∀ z, z ∈ [46, 47, 48] → z ∈ pH by decide) p hp)) (by rw [h.1.1 45 (hS 45 (by decide))]) hX, MH_fr h.1 (fun p hp => hS p ((show ∀ z, z ∈ [79, 80, 81] → z ∈ pH by decide) p hp)) (h.2.2 33 h53) hM⟩
theorem ITo_k {S K0 K53 : List Nat} {st s : mSt} (h : KP S K0 K53 st s) (hS : ∀ p, p ∈ pTo → p ∉ S) (h53 : 38 ∉ K53) (hI : ITo st) : ITo s := by
  obtain ⟨a, T, C, U, hB, hX, hM⟩ := hI
  exact ⟨a, T, C, U, hB, XT_fr h.1 (fun p hp => hS p ((show ∀ z, z ∈ [50, 51, 52] → z ∈ pTo by decide) p hp)) (by rw [h.1.1 49 (hS 49 (by decide))]) hX, MT_fr h.1 (fun p hp => hS p ((show ∀ z, z ∈ [83, 84, 85] → z ∈ pTo by decide) p hp)) (h.2.2 38 h53) hM⟩
theorem IFol_k {S : List Nat} {st s : mSt} (h : Fr S st s) (hS : ∀ p, p ∈ pF → p ∉ S) (hI : IFol st) : IFol s := by
  unfold IFol at hI ⊢
  rw [h.1 31 (hS 31 (by decide)), h.1 32 (hS 32 (by decide)), h.2 31 (hS 31 (by decide))]
  exact hI
theorem IL_k {st s : mSt} (h0 : s.2 0 12 = st.2 0 12) (h1 : s.2 53 0 = st.2 53 0) (hI : IL st) : IL s := h0.trans (hI.trans h1.symm)
theorem IL_fr {S : List Nat} {st s : mSt} (h : Fr S st s) (h0 : 0 ∉ S) (h1 : 53 ∉ S) (hI : IL st) : IL s := IL_k (congrFun (h.2 0 h0) 12) (congrFun (h.2 53 h1) 0) hI
/-- where scratch alone changes -/
theorem INV_s {S K53 : List Nat} {st s : mSt} (hI : INV st) (h : KP S [] K53 st s) (hS : ∀ p, p ∈ pC ++ pN ++ pT ++ pI_ ++ pH ++ pTo → p ∉ S) (h53 : ∀ j, j ∈ [2, 33, 38] → j ∉ K53) (hF : IFol s) (h0 : s.2 0 12 = st.2 0 12) (h1 : s.2 53 0 = st.2 53 0) : INV s := by
  obtain ⟨g, n, c, v, u, yd, a1, a2, a3, a4, a5, a6, -, a8⟩ := hI
  exact ⟨g, n, c, v, u, yd, IC_k h (fun p hp => hS p (by simp only [List.mem_append]; exact Or.inl (Or.inl (Or.inl (Or.inl (Or.inl hp)))))) (by decide) a1, INn_k h.1 (fun p hp => hS p (by simp only [List.mem_append]; exact Or.inl (Or.inl (Or.inl (Or.inl (Or.inr hp)))))) a2, IT_k h (fun p hp => hS p (by simp only [List.mem_append]; exact Or.inl (Or.inl (Or.inl (Or.inr hp))))) (h53 2 (by decide)) a3, II_k h (fun p hp => hS p (by simp only [List.mem_append]; exact Or.inl (Or.inl (Or.inr hp)))) (by decide) a4, IH_k h (fun p hp => hS p (by simp only [List.mem_append]; exact Or.inl (Or.inr hp))) (h53 33 (by decide)) a5, ITo_k h (fun p hp => hS p (by simp only [List.mem_append]; exact Or.inr hp)) (h53 38 (by decide)) a6, hF, IL_k h0 h1 a8⟩
