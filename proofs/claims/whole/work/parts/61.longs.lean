/-! TYPE, CLEAR, HOLE, TELL, DRY of the model leave the longs as they are -/
set_option maxRecDepth 20000 in
theorem m_typeL (d : Nat) (v : Int64) (n : Int32) (L : Nat) (b : Nat → Nat) (st : mSt) (hP : MS st L b) (hL : L ≤ 300) : ∃ (s : mSt), mMC mT (d + 2) 131 [.ref 53, .long v, .int n] st (some (.int (sp_type L n))) s ∧ MS s (L + ty_n L n) (app b L v (ty_n L n)) ∧ Fr [53, 54] st s ∧ Fk 53 [2] st s ∧ s.2 = st.2 := by
  suffices H : ∀ Q : Option Value → mSt → Prop, (∀ (s : mSt), (MS s (L + ty_n L n) (app b L v (ty_n L n)) ∧ Fr [53, 54] st s ∧ Fk 53 [2] st s ∧ s.2 = st.2) → Q (some (.int (sp_type L n))) s) → mW (mMC mT (d + 1)) (0, fun _ => 0) (mAtL P_X10_type) (some .int) Q 0 [some (.ref 53), some (.long v), none, some (.int n), none] [] st by
    obtain ⟨_, _, ⟨s, rfl, rfl, hp⟩, hw⟩ := mW_ex (H (fun vv tt => ∃ (s : mSt),  vv = some (.int (sp_type L n)) ∧ s = tt ∧ MS s (L + ty_n L n) (app b L v (ty_n L n)) ∧ Fr [53, 54] st s ∧ Fk 53 [2] st s ∧ s.2 = st.2) (fun s hp => ⟨s, rfl, rfl, hp⟩))
    exact ⟨s, mI_X10_type (d := d + 1) (Nat.le_of_ble_eq_true rfl) hw, hp⟩
  intro Q hq
  refine w_blk 3 (pc' := 4) (ls' := [some (.ref 53), some (.long v), none, some (.int n), none]) (sk' := [.int 8, .int 1, .int n]) (st' := st) (fun _ h => h) ?_
  refine w_callS (As := [.int n, .int 1, .int 8]) (rest := []) rfl rfl rfl (Nat.le_of_ble_eq_true rfl) (Nat.le_of_ble_eq_true rfl) (m_in (d + 0) n 1 8 st) ?_
  refine w_if_ne rfl (fun h1 => ?_) (fun h1 => ?_)
  · replace h1 := pI_ne.mp h1
    have hok : 1 ≤ n ∧ n ≤ 8 := h1
    obtain ⟨k, hk1, hk8, rfl⟩ := nI_within (a := 1) (b := 8) h1 (by decide) (by decide)
    have ec := nI_clamp (show k < 2 ^ 31 by omega)
    refine w_blk 2 (pc' := 16) (ls' := [some (.ref 53), some (.long v), none, some (.int (nI k)), none]) (sk' := [.int (st.1 53 2)]) (st' := st) (fun _ h => h) ?_
    rw [hP.1]
    refine w_blk 2 (pc' := 18) (ls' := [some (.ref 53), some (.long v), none, some (.int (nI k)), none]) (sk' := [.int ((nI L) + (nI k))]) (st' := st) (fun _ h => h) ?_
    rw [show ((nI L) + (nI k)) = nI (L + k) from nI_add L k]
    refine w_blk 1 (pc' := 21) (ls' := [some (.ref 53), some (.long v), none, some (.int (nI k)), none]) (sk' := [.int 300, .int (nI (L + k))]) (st' := st) (fun _ h => h) ?_
    refine w_cmp_le rfl (fun h2 => ?_) (fun h2 => ?_)
    · replace h2 : L + k ≤ 300 := (nI_leI (a := (L + k)) (b := 300) (by omega) (by omega)).mp h2
      refine w_blk 4 (pc' := 32) (ls' := [some (.ref 53), some (.long v), none, some (.int (nI k)), some (.int ((nI k) - 1))]) (sk' := []) (st' := st) (fun _ h => h) ?_
      suffices key : ∀ (q L' : Nat) (b' : Nat → Nat) (s0 : mSt), MS s0 L' b' → L' + q ≤ 300 → q ≤ 8 → (∀ s : mSt, (MS s (L' + q) (app b' L' v q) ∧ Fr [53, 54] s0 s ∧ Fk 53 [2] s0 s ∧ s.2 = s0.2) → Q (some (.int (nI (L' + q)))) s) → mW (mMC mT (d + 1)) (0, fun _ => 0) (mAtL P_X10_type) (some .int) Q 32 [some (.ref 53), some (.long v), none, some (.int (nI k)), some (.int ((nI q) - 1))] [] s0 from key k L b st hP (by omega) hk8 (fun s hs => by have hh := hq s; rw [show sp_type L (nI k) = nI (L + k) from (if_pos hok).trans (by rw [ec, if_pos h2]), show ty_n L (nI k) = k from (if_pos ⟨hok, by rw [ec]; exact h2⟩).trans ec] at hh; exact hh hs)
      intro q
      induction q with
      | zero =>
        intro L' b' s0 hP2 hL2 hk2 hq2
        refine w_blk 1 (pc' := 34) (ls' := [some (.ref 53), some (.long v), none, some (.int (nI k)), some (.int ((nI 0) - 1))]) (sk' := [.int ((nI 0) - 1)]) (st' := s0) (fun _ h => h) ?_
        refine w_if_lt rfl (fun _ => ?_) (fun hno => absurd (show nI 0 - 1 < 0 by decide) hno)
        refine w_blk 2 (pc' := 79) (ls' := [some (.ref 53), some (.long v), none, some (.int (nI k)), some (.int ((nI 0) - 1))]) (sk' := [.int (s0.1 53 2)]) (st' := s0) (fun _ h => h) ?_
        rw [hP2.1]
        exact w_iret rfl rfl rfl (hq2 _ ⟨hP2, Fr.rf, Fk.rf, rfl⟩)
      | succ q ih =>
        intro L' b' s0 hP2 hL2 hk2 hq2
        rw [nI_pred]
        refine w_blk 1 (pc' := 34) (ls' := [some (.ref 53), some (.long v), none, some (.int (nI k)), some (.int (nI q))]) (sk' := [.int (nI q)]) (st' := s0) (fun _ h => h) ?_
        refine w_if_lt rfl (fun hno => absurd hno (nI_pos (show q < 2 ^ 31 by omega))) (fun _ => ?_)
        refine w_blk 4 (pc' := 45) (ls' := [some (.ref 53), some (.long v), none, some (.int (nI k)), some (.int (nI q))]) (sk' := [.int (s0.1 53 2), .ref 54]) (st' := s0) (fun _ h => h) ?_
        rw [hP2.1]
        refine w_blk 4 (pc' := 51) (ls' := [some (.ref 53), some (.long v), none, some (.int (nI k)), some (.int (nI q))]) (sk' := [.int (8 * (nI q)), .long v, .int (nI L'), .ref 54]) (st' := s0) (fun _ h => h) ?_
        rw [show (8 * (nI q)) = nI (8 * q) from pk_mul 8 q]
        refine w_blk 5 (pc' := 58) (ls' := [some (.ref 53), some (.long v), none, some (.int (nI k)), some (.int (nI q))]) (sk' := [.int (Int8.toInt32 (Int32.toInt8 (Int64.toInt32 ((v >>> (Int32.toInt64 (nI (8 * q)) &&& 63)) &&& 255)))), .int (nI L'), .ref 54]) (st' := s0) (fun _ h => h) ?_
        rw [m_byte v (show q < 8 by omega)]
        refine w_bast1 rfl rfl (vp_in_nI (n := L') (N := 300) (by omega) (by decide)) ?_
        rw [nI_clamp (show L' < 2 ^ 31 by omega)]
        rw [sb_nar]
        refine w_blk 3 (pc' := 64) (ls' := [some (.ref 53), some (.long v), none, some (.int (nI k)), some (.int (nI q))]) (sk' := [.int (s0.1 53 2), .ref 53]) (st' := ((mU s0.1 54 L' (sb (bv v q))), s0.2)) (fun _ h => h) ?_
        rw [hP2.1]
        refine w_blk 2 (pc' := 66) (ls' := [some (.ref 53), some (.long v), none, some (.int (nI k)), some (.int (nI q))]) (sk' := [.int ((nI L') + 1), .ref 53]) (st' := ((mU s0.1 54 L' (sb (bv v q))), s0.2)) (fun _ h => h) ?_
        rw [show ((nI L') + 1) = nI (L' + 1) from nI_add L' 1]
        refine w_blk 1 (pc' := 69) (ls' := [some (.ref 53), some (.long v), none, some (.int (nI k)), some (.int (nI q))]) (sk' := []) (st' := ((mU (mU s0.1 54 L' (sb (bv v q))) 53 2 (nI (L' + 1))), s0.2)) (fun _ h => h) ?_
        refine w_iinc (y := ((nI q) - 1)) (ls' := [some (.ref 53), some (.long v), none, some (.int (nI k)), some (.int ((nI q) - 1))]) rfl rfl rfl (i_m1 _) rfl ?_
        refine w_blk 1 (pc' := 32) (ls' := [some (.ref 53), some (.long v), none, some (.int (nI k)), some (.int ((nI q) - 1))]) (sk' := []) (st' := ((mU (mU s0.1 54 L' (sb (bv v q))) 53 2 (nI (L' + 1))), s0.2)) (fun _ h => h) ?_
        refine ih (L' + 1) (updN b' L' (bv v q)) ((mU (mU s0.1 54 L' (sb (bv v q))) 53 2 (nI (L' + 1))), s0.2) (MS_add hP2 _) (by omega) (by omega) (fun s hs => ?_)
        rw [show L' + 1 + q = L' + (q + 1) by omega, ← app_s] at hs
        rw [show L' + 1 + q = L' + (q + 1) by omega]
        exact hq2 s ⟨hs.1, Fr.trans (Fr.trans (Fr.trans Fr.rf (Fr.mU (by decide))) (Fr.mU (by decide))) hs.2.1, Fk.trans (Fk.trans (Fk.wn (st := s0) (by decide)) (Fk.wr (st := (mU s0.1 54 L' (sb (bv v q)), s0.2)) (by decide))) hs.2.2.1, hs.2.2.2⟩
    · replace h2 : ¬ (L + k ≤ 300) := fun hh => h2 ((nI_leI (a := (L + k)) (b := 300) (by omega) (by omega)).mpr hh)
      refine w_blk 1 (pc' := 26) (ls' := [some (.ref 53), some (.long v), none, some (.int (nI k)), none]) (sk' := [.int (-3)]) (st' := st) (fun _ h => h) ?_
      exact w_iret rfl rfl rfl (by have hh := hq st; rw [show sp_type L (nI k) = -3 from (if_pos hok).trans (if_neg (by rw [ec]; exact h2)), show ty_n L (nI k) = 0 from if_neg (fun e => h2 (by have := e.2; rw [ec] at this; exact this))] at hh; exact hh ⟨hP, Fr.rf, Fk.rf, rfl⟩)
  · replace h1 := pI_eq0.mp (Decidable.not_not.mp h1)
    refine w_blk 1 (pc' := 11) (ls' := [some (.ref 53), some (.long v), none, some (.int n), none]) (sk' := [.int (-1)]) (st' := st) (fun _ h => h) ?_
    have hno : ¬ (1 ≤ n ∧ n ≤ 8) := h1
    exact w_iret rfl rfl rfl (by have hh := hq st; rw [show sp_type L n = -1 from if_neg hno, show ty_n L n = 0 from if_neg (fun e => hno e.1)] at hh; exact hh ⟨hP, Fr.rf, Fk.rf, rfl⟩)

set_option maxRecDepth 20000 in
theorem m_clearL (d : Nat) (L : Nat) (b : Nat → Nat) (st : mSt) (hP : MS st L b) : ∃ (s : mSt), mMC mT (d + 1) 132 [.ref 53] st (some (.int (nI L))) s ∧ MS s 0 b ∧ Fr [53, 54] st s ∧ Fk 53 [2] st s ∧ s.2 = st.2 := by
  suffices H : ∀ Q : Option Value → mSt → Prop, (∀ (s : mSt), (MS s 0 b ∧ Fr [53, 54] st s ∧ Fk 53 [2] st s ∧ s.2 = st.2) → Q (some (.int (nI L))) s) → mW (mMC mT (d + 0)) (0, fun _ => 0) (mAtL P_X10_clear) (some .int) Q 0 [some (.ref 53), none] [] st by
    obtain ⟨_, _, ⟨s, rfl, rfl, hp⟩, hw⟩ := mW_ex (H (fun vv tt => ∃ (s : mSt),  vv = some (.int (nI L)) ∧ s = tt ∧ MS s 0 b ∧ Fr [53, 54] st s ∧ Fk 53 [2] st s ∧ s.2 = st.2) (fun s hp => ⟨s, rfl, rfl, hp⟩))
    exact ⟨s, mI_X10_clear (d := d + 0) (Nat.le_of_ble_eq_true rfl) hw, hp⟩
  intro Q hq
  refine w_blk 2 (pc' := 4) (ls' := [some (.ref 53), none]) (sk' := [.int (st.1 53 2)]) (st' := st) (fun _ h => h) ?_
  rw [hP.1]
  refine w_blk 5 (pc' := 11) (ls' := [some (.ref 53), some (.int (nI L))]) (sk' := [.int (nI L)]) (st' := ((mU st.1 53 2 0), st.2)) (fun _ h => h) ?_
  exact w_iret rfl rfl rfl (hq _ ⟨⟨rfl, fun j hj => absurd hj (by omega)⟩, Fr.trans Fr.rf (Fr.mU (by decide)), Fk.wr (by decide), rfl⟩)

set_option maxRecDepth 20000 in
theorem m_holeL (d : Nat) (a : Nat) (T C U : Nat → Nat) (t c u : Int32) (st : mSt) (hP : MH st a T C U) (ha : a ≤ 8) : ∃ (s : mSt), mMC mT (d + 2) 175 [.ref 53, .int t, .int c, .int u] st (some (.int (sp_hole a t c u))) s ∧ MH s (hl_a a t c u) (updN T a t.toNatClampNeg) (updN C a c.toNatClampNeg) (updN U a u.toNatClampNeg) ∧ Fr [53, 79, 80, 81] st s ∧ Fk 53 [33] st s ∧ s.2 = st.2 := by
  suffices H : ∀ Q : Option Value → mSt → Prop, (∀ (s : mSt), (MH s (hl_a a t c u) (updN T a t.toNatClampNeg) (updN C a c.toNatClampNeg) (updN U a u.toNatClampNeg) ∧ Fr [53, 79, 80, 81] st s ∧ Fk 53 [33] st s ∧ s.2 = st.2) → Q (some (.int (sp_hole a t c u))) s) → mW (mMC mT (d + 1)) (0, fun _ => 0) (mAtL P_X10_hole) (some .int) Q 0 [some (.ref 53), some (.int t), some (.int c), some (.int u)] [] st by
    obtain ⟨_, _, ⟨s, rfl, rfl, hp⟩, hw⟩ := mW_ex (H (fun vv tt => ∃ (s : mSt),  vv = some (.int (sp_hole a t c u)) ∧ s = tt ∧ MH s (hl_a a t c u) (updN T a t.toNatClampNeg) (updN C a c.toNatClampNeg) (updN U a u.toNatClampNeg) ∧ Fr [53, 79, 80, 81] st s ∧ Fk 53 [33] st s ∧ s.2 = st.2) (fun s hp => ⟨s, rfl, rfl, hp⟩))
    exact ⟨s, mI_X10_hole (d := d + 1) (Nat.le_of_ble_eq_true rfl) hw, hp⟩
  intro Q hq
  refine w_blk 3 (pc' := 4) (ls' := [some (.ref 53), some (.int t), some (.int c), some (.int u)]) (sk' := [.int 99, .int 0, .int t]) (st' := st) (fun _ h => h) ?_
  refine w_callS (As := [.int t, .int 0, .int 99]) (rest := []) rfl rfl rfl (Nat.le_of_ble_eq_true rfl) (Nat.le_of_ble_eq_true rfl) (m_in (d + 0) t 0 99 st) ?_
  refine w_if_eq rfl (fun h1 => ?_) (fun h1 => ?_)
  · replace h1 := pI_eq0.mp h1
    refine w_blk 1 (pc' := 32) (ls' := [some (.ref 53), some (.int t), some (.int c), some (.int u)]) (sk' := [.int (-1)]) (st' := st) (fun _ h => h) ?_
    have hno : ¬ okH t c u := fun hh => by first | exact h1 hh.1 | exact h2 hh.2.1 | exact h3 hh.2.2
    exact w_iret rfl rfl rfl (by have hh := hq st; rw [show sp_hole a t c u = -1 from if_neg hno, show hl_a a t c u = a from if_neg (fun e => hno e.1)] at hh; exact hh ⟨MH_no hP _ _ _, Fr.rf, Fk.rf, rfl⟩)
  · replace h1 := pI_ne.mp h1
    refine w_blk 3 (pc' := 14) (ls' := [some (.ref 53), some (.int t), some (.int c), some (.int u)]) (sk' := [.int 99, .int 1, .int c]) (st' := st) (fun _ h => h) ?_
    refine w_callS (As := [.int c, .int 1, .int 99]) (rest := []) rfl rfl rfl (Nat.le_of_ble_eq_true rfl) (Nat.le_of_ble_eq_true rfl) (m_in (d + 0) c 1 99 st) ?_
    refine w_if_eq rfl (fun h2 => ?_) (fun h2 => ?_)
    · replace h2 := pI_eq0.mp h2
      refine w_blk 1 (pc' := 32) (ls' := [some (.ref 53), some (.int t), some (.int c), some (.int u)]) (sk' := [.int (-1)]) (st' := st) (fun _ h => h) ?_
      have hno : ¬ okH t c u := fun hh => by first | exact h1 hh.1 | exact h2 hh.2.1 | exact h3 hh.2.2
      exact w_iret rfl rfl rfl (by have hh := hq st; rw [show sp_hole a t c u = -1 from if_neg hno, show hl_a a t c u = a from if_neg (fun e => hno e.1)] at hh; exact hh ⟨MH_no hP _ _ _, Fr.rf, Fk.rf, rfl⟩)
    · replace h2 := pI_ne.mp h2
      refine w_blk 3 (pc' := 25) (ls' := [some (.ref 53), some (.int t), some (.int c), some (.int u)]) (sk' := [.int 200, .int t, .int u]) (st' := st) (fun _ h => h) ?_
      refine w_callS (As := [.int u, .int t, .int 200]) (rest := []) rfl rfl rfl (Nat.le_of_ble_eq_true rfl) (Nat.le_of_ble_eq_true rfl) (m_in (d + 0) u t 200 st) ?_
      refine w_if_ne rfl (fun h3 => ?_) (fun h3 => ?_)
      · replace h3 := pI_ne.mp h3
        have hok : okH t c u := ⟨h1, h2, h3⟩
        obtain ⟨t', -, ht99, rfl⟩ := nI_within (a := 0) (b := 99) h1 (by decide) (by decide)
        obtain ⟨c', hc1, hc99, rfl⟩ := nI_within (a := 1) (b := 99) h2 (by decide) (by decide)
        obtain ⟨u', htu, hu200, rfl⟩ := nI_within (a := t') (b := 200) h3 (by omega) (by decide)
        refine w_blk 2 (pc' := 37) (ls' := [some (.ref 53), some (.int (nI t')), some (.int (nI c')), some (.int (nI u'))]) (sk' := [.int (st.1 53 33)]) (st' := st) (fun _ h => h) ?_
        rw [hP.1]
        refine w_blk 1 (pc' := 39) (ls' := [some (.ref 53), some (.int (nI t')), some (.int (nI c')), some (.int (nI u'))]) (sk' := [.int 8, .int (nI a)]) (st' := st) (fun _ h => h) ?_
        refine w_cmp_ne rfl (fun h4 => ?_) (fun h4 => ?_)
        · replace h4 : ¬ (a = 8) := fun hh => h4 ((nI_eq (a := a) (b := 8) (by omega) (by omega)).mpr hh)
          have ec1 := nI_clamp (show t' < 2 ^ 31 by omega)
          have ec2 := nI_clamp (show c' < 2 ^ 31 by omega)
          have ec3 := nI_clamp (show u' < 2 ^ 31 by omega)
          refine w_blk 4 (pc' := 53) (ls' := [some (.ref 53), some (.int (nI t')), some (.int (nI c')), some (.int (nI u'))]) (sk' := [.int (st.1 53 33), .ref 79]) (st' := st) (fun _ h => h) ?_
          rw [hP.1]
          refine w_blk 1 (pc' := 54) (ls' := [some (.ref 53), some (.int (nI t')), some (.int (nI c')), some (.int (nI u'))]) (sk' := [.int (nI t'), .int (nI a), .ref 79]) (st' := st) (fun _ h => h) ?_
          refine w_iast rfl rfl (vp_in_nI (n := a) (N := 8) (by omega) (by decide)) ?_
          rw [nI_clamp (show a < 2 ^ 31 by omega)]
          refine w_blk 4 (pc' := 63) (ls' := [some (.ref 53), some (.int (nI t')), some (.int (nI c')), some (.int (nI u'))]) (sk' := [.int (st.1 53 33), .ref 80]) (st' := ((mU st.1 79 a (nI t')), st.2)) (fun _ h => h) ?_
          rw [hP.1]
          refine w_blk 1 (pc' := 64) (ls' := [some (.ref 53), some (.int (nI t')), some (.int (nI c')), some (.int (nI u'))]) (sk' := [.int (nI c'), .int (nI a), .ref 80]) (st' := ((mU st.1 79 a (nI t')), st.2)) (fun _ h => h) ?_
          refine w_iast rfl rfl (vp_in_nI (n := a) (N := 8) (by omega) (by decide)) ?_
          rw [nI_clamp (show a < 2 ^ 31 by omega)]
          refine w_blk 4 (pc' := 73) (ls' := [some (.ref 53), some (.int (nI t')), some (.int (nI c')), some (.int (nI u'))]) (sk' := [.int (st.1 53 33), .ref 81]) (st' := ((mU (mU st.1 79 a (nI t')) 80 a (nI c')), st.2)) (fun _ h => h) ?_
          rw [hP.1]
          refine w_blk 1 (pc' := 74) (ls' := [some (.ref 53), some (.int (nI t')), some (.int (nI c')), some (.int (nI u'))]) (sk' := [.int (nI u'), .int (nI a), .ref 81]) (st' := ((mU (mU st.1 79 a (nI t')) 80 a (nI c')), st.2)) (fun _ h => h) ?_
          refine w_iast rfl rfl (vp_in_nI (n := a) (N := 8) (by omega) (by decide)) ?_
          rw [nI_clamp (show a < 2 ^ 31 by omega)]
          refine w_blk 3 (pc' := 80) (ls' := [some (.ref 53), some (.int (nI t')), some (.int (nI c')), some (.int (nI u'))]) (sk' := [.int (st.1 53 33), .ref 53]) (st' := ((mU (mU (mU st.1 79 a (nI t')) 80 a (nI c')) 81 a (nI u')), st.2)) (fun _ h => h) ?_
          rw [hP.1]
          refine w_blk 2 (pc' := 82) (ls' := [some (.ref 53), some (.int (nI t')), some (.int (nI c')), some (.int (nI u'))]) (sk' := [.int ((nI a) + 1), .ref 53]) (st' := ((mU (mU (mU st.1 79 a (nI t')) 80 a (nI c')) 81 a (nI u')), st.2)) (fun _ h => h) ?_
          rw [show ((nI a) + 1) = nI (a + 1) from nI_add a 1]
          refine w_blk 3 (pc' := 89) (ls' := [some (.ref 53), some (.int (nI t')), some (.int (nI c')), some (.int (nI u'))]) (sk' := [.int (nI (a + 1))]) (st' := ((mU (mU (mU (mU st.1 79 a (nI t')) 80 a (nI c')) 81 a (nI u')) 53 33 (nI (a + 1))), st.2)) (fun _ h => h) ?_
          have ha8 : a < 8 := by omega
          exact w_iret rfl rfl rfl (by have hh := hq ((mU (mU (mU (mU st.1 79 a (nI t')) 80 a (nI c')) 81 a (nI u')) 53 33 (nI (a + 1))), st.2); rw [show sp_hole a (nI t') (nI c') (nI u') = nI (a + 1) from (if_pos hok).trans (if_pos ha8), show hl_a a (nI t') (nI c') (nI u') = a + 1 from if_pos ⟨hok, ha8⟩, ec1, ec2, ec3] at hh; exact hh ⟨MH_add hP t' c' u', (Fr.trans (Fr.trans (Fr.trans (Fr.trans (Fr.rf : Fr [53, 79, 80, 81] st st) (Fr.mU (by decide))) (Fr.mU (by decide))) (Fr.mU (by decide))) (Fr.mU (by decide))), (Fk.trans (Fk.trans (Fk.trans (Fk.trans (Fk.rf : Fk 53 [33] st st) (Fk.wn (by decide))) (Fk.wn (by decide))) (Fk.wn (by decide))) (Fk.wr (by decide))), rfl⟩)
        · replace h4 : a = 8 := (nI_eq (a := a) (b := 8) (by omega) (by omega)).mp (Decidable.not_not.mp h4)
          have ec1 := nI_clamp (show t' < 2 ^ 31 by omega)
          have ec2 := nI_clamp (show c' < 2 ^ 31 by omega)
          have ec3 := nI_clamp (show u' < 2 ^ 31 by omega)
          refine w_blk 1 (pc' := 44) (ls' := [some (.ref 53), some (.int (nI t')), some (.int (nI c')), some (.int (nI u'))]) (sk' := [.int (-3)]) (st' := st) (fun _ h => h) ?_
          exact w_iret rfl rfl rfl (by have hh := hq st; rw [show sp_hole a (nI t') (nI c') (nI u') = -3 from (if_pos hok).trans (if_neg (by omega)), show hl_a a (nI t') (nI c') (nI u') = a from if_neg (fun e => by have := e.2; omega)] at hh; exact hh ⟨MH_no hP _ _ _, Fr.rf, Fk.rf, rfl⟩)
      · replace h3 := pI_eq0.mp (Decidable.not_not.mp h3)
        refine w_blk 1 (pc' := 32) (ls' := [some (.ref 53), some (.int t), some (.int c), some (.int u)]) (sk' := [.int (-1)]) (st' := st) (fun _ h => h) ?_
        have hno : ¬ okH t c u := fun hh => by first | exact h1 hh.1 | exact h2 hh.2.1 | exact h3 hh.2.2
        exact w_iret rfl rfl rfl (by have hh := hq st; rw [show sp_hole a t c u = -1 from if_neg hno, show hl_a a t c u = a from if_neg (fun e => hno e.1)] at hh; exact hh ⟨MH_no hP _ _ _, Fr.rf, Fk.rf, rfl⟩)

set_option maxRecDepth 20000 in
theorem m_tellL (d : Nat) (n : Nat → Nat) (c : Nat → Nat → Nat) (a : Nat) (T C U : Nat → Nat) (r x y : Int32) (st : mSt) (hR : MR st n c) (hB : CB n c) (hP : MT st a T C U) (ha : a ≤ 30) : ∃ (s : mSt), mMC mT (d + 3) 181 [.ref 53, .int r, .int x, .int y] st (some (.int (sp_tell n a r x y))) s ∧ MT s (tl_a n a r x y) (updN T a r.toNatClampNeg) (updN C a x.toNatClampNeg) (updN U a y.toNatClampNeg) ∧ Fr [53, 83, 84, 85] st s ∧ Fk 53 [38] st s ∧ s.2 = st.2 := by
  suffices H : ∀ Q : Option Value → mSt → Prop, (∀ (s : mSt), (MT s (tl_a n a r x y) (updN T a r.toNatClampNeg) (updN C a x.toNatClampNeg) (updN U a y.toNatClampNeg) ∧ Fr [53, 83, 84, 85] st s ∧ Fk 53 [38] st s ∧ s.2 = st.2) → Q (some (.int (sp_tell n a r x y))) s) → mW (mMC mT (d + 2)) (0, fun _ => 0) (mAtL P_X10_tell) (some .int) Q 0 [some (.ref 53), some (.int r), some (.int x), some (.int y)] [] st by
    obtain ⟨_, _, ⟨s, rfl, rfl, hp⟩, hw⟩ := mW_ex (H (fun vv tt => ∃ (s : mSt),  vv = some (.int (sp_tell n a r x y)) ∧ s = tt ∧ MT s (tl_a n a r x y) (updN T a r.toNatClampNeg) (updN C a x.toNatClampNeg) (updN U a y.toNatClampNeg) ∧ Fr [53, 83, 84, 85] st s ∧ Fk 53 [38] st s ∧ s.2 = st.2) (fun s hp => ⟨s, rfl, rfl, hp⟩))
    exact ⟨s, mI_X10_tell (d := d + 2) (Nat.le_of_ble_eq_true rfl) hw, hp⟩
  intro Q hq
  obtain ⟨hb0, hb1, hb2, hbd, hbs, hby⟩ := id hB
  refine w_blk 3 (pc' := 4) (ls' := [some (.ref 53), some (.int r), some (.int x), some (.int y)]) (sk' := [.int 99, .int 0, .int r]) (st' := st) (fun _ h => h) ?_
  refine w_callS (As := [.int r, .int 0, .int 99]) (rest := []) rfl rfl rfl (Nat.le_of_ble_eq_true rfl) (Nat.le_of_ble_eq_true rfl) (m_in (d + 1) r 0 99 st) ?_
  refine w_if_eq rfl (fun h1 => ?_) (fun h1 => ?_)
  · replace h1 := pI_eq0.mp h1
    refine w_blk 1 (pc' := 27) (ls' := [some (.ref 53), some (.int r), some (.int x), some (.int y)]) (sk' := [.int (-1)]) (st' := st) (fun _ h => h) ?_
    have hno : ¬ okT n r x y := fun hh => by first | exact h1 hh.1 | exact h2 hh.2.1 | exact h3 hh.2.2
    exact w_iret rfl rfl rfl (by have hh := hq st; rw [show sp_tell n a r x y = -1 from if_neg hno, show tl_a n a r x y = a from if_neg (fun e => hno e.1)] at hh; exact hh ⟨MT_no hP _ _ _, Fr.rf, Fk.rf, rfl⟩)
  · replace h1 := pI_ne.mp h1
    refine w_blk 2 (pc' := 12) (ls' := [some (.ref 53), some (.int r), some (.int x), some (.int y)]) (sk' := [.int x, .ref 53]) (st' := st) (fun _ h => h) ?_
    refine w_callV (As := [.ref 53, .int x]) (rest := []) rfl rfl rfl (Nat.le_of_ble_eq_true rfl) (Nat.le_of_ble_eq_true rfl) (by first | exact Or.inl ⟨rfl, rfl⟩ | exact Or.inr ⟨rfl, rfl⟩) (m_isDigger (d + 0) n c x st hR hB) ?_
    refine w_if_eq rfl (fun h2 => ?_) (fun h2 => ?_)
    · replace h2 := pI_eq0.mp h2
      refine w_blk 1 (pc' := 27) (ls' := [some (.ref 53), some (.int r), some (.int x), some (.int y)]) (sk' := [.int (-1)]) (st' := st) (fun _ h => h) ?_
      have hno : ¬ okT n r x y := fun hh => by first | exact h1 hh.1 | exact h2 hh.2.1 | exact h3 hh.2.2
      exact w_iret rfl rfl rfl (by have hh := hq st; rw [show sp_tell n a r x y = -1 from if_neg hno, show tl_a n a r x y = a from if_neg (fun e => hno e.1)] at hh; exact hh ⟨MT_no hP _ _ _, Fr.rf, Fk.rf, rfl⟩)
    · replace h2 := pI_ne.mp h2
      refine w_blk 2 (pc' := 20) (ls' := [some (.ref 53), some (.int r), some (.int x), some (.int y)]) (sk' := [.int y, .ref 53]) (st' := st) (fun _ h => h) ?_
      refine w_callV (As := [.ref 53, .int y]) (rest := []) rfl rfl rfl (Nat.le_of_ble_eq_true rfl) (Nat.le_of_ble_eq_true rfl) (by first | exact Or.inl ⟨rfl, rfl⟩ | exact Or.inr ⟨rfl, rfl⟩) (m_isSpade (d + 0) n c y st hR hB) ?_
      refine w_if_ne rfl (fun h3 => ?_) (fun h3 => ?_)
      · replace h3 := pI_ne.mp h3
        have hok : okT n r x y := ⟨h1, h2, h3⟩
        obtain ⟨r', -, hr99, rfl⟩ := nI_within (a := 0) (b := 99) h1 (by decide) (by decide)
        obtain ⟨k, hk, rfl⟩ := nI_in2 (by omega) h2
        obtain ⟨j, hj, rfl⟩ := nI_in2 (by omega) h3
        refine w_blk 2 (pc' := 32) (ls' := [some (.ref 53), some (.int (nI r')), some (.int (nI k)), some (.int (nI j))]) (sk' := [.int (st.1 53 38)]) (st' := st) (fun _ h => h) ?_
        rw [hP.1]
        refine w_blk 1 (pc' := 34) (ls' := [some (.ref 53), some (.int (nI r')), some (.int (nI k)), some (.int (nI j))]) (sk' := [.int 30, .int (nI a)]) (st' := st) (fun _ h => h) ?_
        refine w_cmp_ne rfl (fun h4 => ?_) (fun h4 => ?_)
        · replace h4 : ¬ (a = 30) := fun hh => h4 ((nI_eq (a := a) (b := 30) (by omega) (by omega)).mpr hh)
          have ec1 := nI_clamp (show r' < 2 ^ 31 by omega)
          have ec2 := nI_clamp (show k < 2 ^ 31 by omega)
          have ec3 := nI_clamp (show j < 2 ^ 31 by omega)
          refine w_blk 4 (pc' := 48) (ls' := [some (.ref 53), some (.int (nI r')), some (.int (nI k)), some (.int (nI j))]) (sk' := [.int (st.1 53 38), .ref 83]) (st' := st) (fun _ h => h) ?_
          rw [hP.1]
          refine w_blk 1 (pc' := 49) (ls' := [some (.ref 53), some (.int (nI r')), some (.int (nI k)), some (.int (nI j))]) (sk' := [.int (nI r'), .int (nI a), .ref 83]) (st' := st) (fun _ h => h) ?_
          refine w_iast rfl rfl (vp_in_nI (n := a) (N := 30) (by omega) (by decide)) ?_
          rw [nI_clamp (show a < 2 ^ 31 by omega)]
          refine w_blk 4 (pc' := 58) (ls' := [some (.ref 53), some (.int (nI r')), some (.int (nI k)), some (.int (nI j))]) (sk' := [.int (st.1 53 38), .ref 84]) (st' := ((mU st.1 83 a (nI r')), st.2)) (fun _ h => h) ?_
          rw [hP.1]
          refine w_blk 1 (pc' := 59) (ls' := [some (.ref 53), some (.int (nI r')), some (.int (nI k)), some (.int (nI j))]) (sk' := [.int (nI k), .int (nI a), .ref 84]) (st' := ((mU st.1 83 a (nI r')), st.2)) (fun _ h => h) ?_
          refine w_iast rfl rfl (vp_in_nI (n := a) (N := 30) (by omega) (by decide)) ?_
          rw [nI_clamp (show a < 2 ^ 31 by omega)]
          refine w_blk 4 (pc' := 68) (ls' := [some (.ref 53), some (.int (nI r')), some (.int (nI k)), some (.int (nI j))]) (sk' := [.int (st.1 53 38), .ref 85]) (st' := ((mU (mU st.1 83 a (nI r')) 84 a (nI k)), st.2)) (fun _ h => h) ?_
          rw [hP.1]
          refine w_blk 1 (pc' := 69) (ls' := [some (.ref 53), some (.int (nI r')), some (.int (nI k)), some (.int (nI j))]) (sk' := [.int (nI j), .int (nI a), .ref 85]) (st' := ((mU (mU st.1 83 a (nI r')) 84 a (nI k)), st.2)) (fun _ h => h) ?_
          refine w_iast rfl rfl (vp_in_nI (n := a) (N := 30) (by omega) (by decide)) ?_
          rw [nI_clamp (show a < 2 ^ 31 by omega)]
          refine w_blk 3 (pc' := 75) (ls' := [some (.ref 53), some (.int (nI r')), some (.int (nI k)), some (.int (nI j))]) (sk' := [.int (st.1 53 38), .ref 53]) (st' := ((mU (mU (mU st.1 83 a (nI r')) 84 a (nI k)) 85 a (nI j)), st.2)) (fun _ h => h) ?_
          rw [hP.1]
          refine w_blk 2 (pc' := 77) (ls' := [some (.ref 53), some (.int (nI r')), some (.int (nI k)), some (.int (nI j))]) (sk' := [.int ((nI a) + 1), .ref 53]) (st' := ((mU (mU (mU st.1 83 a (nI r')) 84 a (nI k)) 85 a (nI j)), st.2)) (fun _ h => h) ?_
          rw [show ((nI a) + 1) = nI (a + 1) from nI_add a 1]
          refine w_blk 3 (pc' := 84) (ls' := [some (.ref 53), some (.int (nI r')), some (.int (nI k)), some (.int (nI j))]) (sk' := [.int (nI (a + 1))]) (st' := ((mU (mU (mU (mU st.1 83 a (nI r')) 84 a (nI k)) 85 a (nI j)) 53 38 (nI (a + 1))), st.2)) (fun _ h => h) ?_
          have ha30 : a < 30 := by omega
          exact w_iret rfl rfl rfl (by have hh := hq ((mU (mU (mU (mU st.1 83 a (nI r')) 84 a (nI k)) 85 a (nI j)) 53 38 (nI (a + 1))), st.2); rw [show sp_tell n a (nI r') (nI k) (nI j) = nI (a + 1) from (if_pos hok).trans (if_pos ha30), show tl_a n a (nI r') (nI k) (nI j) = a + 1 from if_pos ⟨hok, ha30⟩, ec1, ec2, ec3] at hh; exact hh ⟨MT_add hP r' k j, (Fr.trans (Fr.trans (Fr.trans (Fr.trans (Fr.rf : Fr [53, 83, 84, 85] st st) (Fr.mU (by decide))) (Fr.mU (by decide))) (Fr.mU (by decide))) (Fr.mU (by decide))), (Fk.trans (Fk.trans (Fk.trans (Fk.trans (Fk.rf : Fk 53 [38] st st) (Fk.wn (by decide))) (Fk.wn (by decide))) (Fk.wn (by decide))) (Fk.wr (by decide))), rfl⟩)
        · replace h4 : a = 30 := (nI_eq (a := a) (b := 30) (by omega) (by omega)).mp (Decidable.not_not.mp h4)
          have ec1 := nI_clamp (show r' < 2 ^ 31 by omega)
          have ec2 := nI_clamp (show k < 2 ^ 31 by omega)
          have ec3 := nI_clamp (show j < 2 ^ 31 by omega)
          refine w_blk 1 (pc' := 39) (ls' := [some (.ref 53), some (.int (nI r')), some (.int (nI k)), some (.int (nI j))]) (sk' := [.int (-3)]) (st' := st) (fun _ h => h) ?_
          exact w_iret rfl rfl rfl (by have hh := hq st; rw [show sp_tell n a (nI r') (nI k) (nI j) = -3 from (if_pos hok).trans (if_neg (by omega)), show tl_a n a (nI r') (nI k) (nI j) = a from if_neg (fun e => by have := e.2; omega)] at hh; exact hh ⟨MT_no hP _ _ _, Fr.rf, Fk.rf, rfl⟩)
      · replace h3 := pI_eq0.mp (Decidable.not_not.mp h3)
        refine w_blk 1 (pc' := 27) (ls' := [some (.ref 53), some (.int r), some (.int x), some (.int y)]) (sk' := [.int (-1)]) (st' := st) (fun _ h => h) ?_
        have hno : ¬ okT n r x y := fun hh => by first | exact h1 hh.1 | exact h2 hh.2.1 | exact h3 hh.2.2
        exact w_iret rfl rfl rfl (by have hh := hq st; rw [show sp_tell n a r x y = -1 from if_neg hno, show tl_a n a r x y = a from if_neg (fun e => hno e.1)] at hh; exact hh ⟨MT_no hP _ _ _, Fr.rf, Fk.rf, rfl⟩)

set_option maxRecDepth 20000 in
theorem m_dryL (d : Nat) (a : Nat) (T C U : Nat → Nat) (st : mSt) (hP : MH st a T C U) : ∃ (s : mSt), mMC mT (d + 1) 180 [.ref 53] st (some (.int (nI a))) s ∧ MH s 0 T C U ∧ Fr [53, 79, 80, 81] st s ∧ Fk 53 [33] st s ∧ s.2 = st.2 := by
  suffices H : ∀ Q : Option Value → mSt → Prop, (∀ (s : mSt), (MH s 0 T C U ∧ Fr [53, 79, 80, 81] st s ∧ Fk 53 [33] st s ∧ s.2 = st.2) → Q (some (.int (nI a))) s) → mW (mMC mT (d + 0)) (0, fun _ => 0) (mAtL P_X10_dry) (some .int) Q 0 [some (.ref 53), none] [] st by
    obtain ⟨_, _, ⟨s, rfl, rfl, hp⟩, hw⟩ := mW_ex (H (fun vv tt => ∃ (s : mSt),  vv = some (.int (nI a)) ∧ s = tt ∧ MH s 0 T C U ∧ Fr [53, 79, 80, 81] st s ∧ Fk 53 [33] st s ∧ s.2 = st.2) (fun s hp => ⟨s, rfl, rfl, hp⟩))
    exact ⟨s, mI_X10_dry (d := d + 0) (Nat.le_of_ble_eq_true rfl) hw, hp⟩
  intro Q hq
  refine w_blk 2 (pc' := 4) (ls' := [some (.ref 53), none]) (sk' := [.int (st.1 53 33)]) (st' := st) (fun _ h => h) ?_
  rw [hP.1]
  refine w_blk 5 (pc' := 11) (ls' := [some (.ref 53), some (.int (nI a))]) (sk' := [.int (nI a)]) (st' := ((mU st.1 53 33 0), st.2)) (fun _ h => h) ?_
  exact w_iret rfl rfl rfl (hq _ ⟨⟨rfl, fun k hk => absurd hk (by omega)⟩, Fr.trans Fr.rf (Fr.mU (by decide)), Fk.wr (by decide), rfl⟩)

