/-! PLAIN CALLS of the model, 3: images, marks, holes, told ones -/
set_option maxRecDepth 20000 in
/-- copy(f, t) -/
theorem m_copy (d : Nat) (f t : Nat) (st : mSt) (hf2 : f ≤ 2) (ht2 : t ≤ 2) (hft : f ≠ t) : ∃ (s : mSt), mMC mT (d + 1) 185 [.ref 53, .int (nI f), .int (nI t)] st (none) s ∧ (∀ j, j < 20 → s.1 65 (20 * t + j) = st.1 65 (20 * f + j)) ∧ (∀ j, ¬ (20 * t ≤ j ∧ j < 20 * t + 20) → s.1 65 j = st.1 65 j) ∧ Fr [65] st s := by
  suffices H : ∀ Q : Option Value → mSt → Prop, (∀ (s : mSt), ((∀ j, j < 20 → s.1 65 (20 * t + j) = st.1 65 (20 * f + j)) ∧ (∀ j, ¬ (20 * t ≤ j ∧ j < 20 * t + 20) → s.1 65 j = st.1 65 j) ∧ Fr [65] st s) → Q (none) s) → mW (mMC mT (d + 0)) (0, fun _ => 0) (mAtL P_X10_copy) none Q 0 [some (.ref 53), some (.int (nI f)), some (.int (nI t)), none] [] st by
    obtain ⟨_, _, ⟨s, rfl, rfl, hp⟩, hw⟩ := mW_ex (H (fun vv tt => ∃ (s : mSt),  vv = none ∧ s = tt ∧ (∀ j, j < 20 → s.1 65 (20 * t + j) = st.1 65 (20 * f + j)) ∧ (∀ j, ¬ (20 * t ≤ j ∧ j < 20 * t + 20) → s.1 65 j = st.1 65 j) ∧ Fr [65] st s) (fun s hp => ⟨s, rfl, rfl, hp⟩))
    exact ⟨s, mI_X10_copy (d := d + 0) (Nat.le_of_ble_eq_true rfl) hw, hp⟩
  intro Q hq
  refine w_blk 2 (pc' := 2) (ls' := [some (.ref 53), some (.int (nI f)), some (.int (nI t)), some (.int 0)]) (sk' := []) (st' := st) (fun _ h => h) ?_
  suffices key : ∀ (m k : Nat) (s0 : mSt), k + m = 20 → (∀ j, j < k → s0.1 65 (20 * t + j) = st.1 65 (20 * f + j)) → (∀ j, ¬ (20 * t ≤ j ∧ j < 20 * t + k) → s0.1 65 j = st.1 65 j) → Fr [65] st s0 → mW (mMC mT (d + 0)) (0, fun _ => 0) (mAtL P_X10_copy) none Q 2 [some (.ref 53), some (.int (nI f)), some (.int (nI t)), some (.int (nI k))] [] s0 from key 20 0 st (by omega) (fun j hj => absurd hj (by omega)) (fun _ _ => rfl) Fr.rf
  intro m
  induction m with
  | zero =>
    intro k s0 hk h1 h2 hf
    obtain rfl : k = 20 := by omega
    refine w_blk 2 (pc' := 5) (ls' := [some (.ref 53), some (.int (nI f)), some (.int (nI t)), some (.int (nI 20))]) (sk' := [.int 20, .int (nI 20)]) (st' := s0) (fun _ h => h) ?_
    refine w_cmp_ge rfl (fun _ => ?_) (fun hno => absurd (Int32.le_refl _) hno)
    exact w_vret rfl rfl (hq _ ⟨h1, h2, hf⟩)
  | succ m ih =>
    intro k s0 hk h1 h2 hf
    refine w_blk 2 (pc' := 5) (ls' := [some (.ref 53), some (.int (nI f)), some (.int (nI t)), some (.int (nI k))]) (sk' := [.int 20, .int (nI k)]) (st' := s0) (fun _ h => h) ?_
    refine w_cmp_ge rfl (fun hno => absurd hno (nI_ge (a := k) (b := 20) (by omega) (by omega))) (fun _ => ?_)
    refine w_blk 5 (pc' := 16) (ls' := [some (.ref 53), some (.int (nI f)), some (.int (nI t)), some (.int (nI k))]) (sk' := [.int (20 * (nI t)), .ref 65]) (st' := s0) (fun _ h => h) ?_
    rw [show (20 * (nI t)) = nI (20 * t) from pk_mul 20 t]
    refine w_blk 2 (pc' := 18) (ls' := [some (.ref 53), some (.int (nI f)), some (.int (nI t)), some (.int (nI k))]) (sk' := [.int ((nI (20 * t)) + (nI k)), .ref 65]) (st' := s0) (fun _ h => h) ?_
    rw [show ((nI (20 * t)) + (nI k)) = nI ((20 * t) + k) from nI_add (20 * t) k]
    refine w_blk 5 (pc' := 26) (ls' := [some (.ref 53), some (.int (nI f)), some (.int (nI t)), some (.int (nI k))]) (sk' := [.int (20 * (nI f)), .ref 65, .int (nI ((20 * t) + k)), .ref 65]) (st' := s0) (fun _ h => h) ?_
    rw [show (20 * (nI f)) = nI (20 * f) from pk_mul 20 f]
    refine w_blk 2 (pc' := 28) (ls' := [some (.ref 53), some (.int (nI f)), some (.int (nI t)), some (.int (nI k))]) (sk' := [.int ((nI (20 * f)) + (nI k)), .ref 65, .int (nI ((20 * t) + k)), .ref 65]) (st' := s0) (fun _ h => h) ?_
    rw [show ((nI (20 * f)) + (nI k)) = nI ((20 * f) + k) from nI_add (20 * f) k]
    refine w_iald rfl rfl (vp_in_nI (n := ((20 * f) + k)) (N := 60) (by omega) (by decide)) ?_
    rw [nI_clamp (show ((20 * f) + k) < 2 ^ 31 by omega)]
    refine w_iast rfl rfl (vp_in_nI (n := ((20 * t) + k)) (N := 60) (by omega) (by decide)) ?_
    rw [nI_clamp (show ((20 * t) + k) < 2 ^ 31 by omega)]
    refine w_blk 1 (pc' := 33) (ls' := [some (.ref 53), some (.int (nI f)), some (.int (nI t)), some (.int ((nI k) + 1))]) (sk' := []) (st' := ((mU s0.1 65 ((20 * t) + k) (s0.1 65 ((20 * f) + k))), s0.2)) (fun _ h => h) ?_
    rw [show ((nI k) + 1) = nI (k + 1) from nI_add k 1]
    refine w_blk 1 (pc' := 2) (ls' := [some (.ref 53), some (.int (nI f)), some (.int (nI t)), some (.int (nI (k + 1)))]) (sk' := []) (st' := ((mU s0.1 65 ((20 * t) + k) (s0.1 65 ((20 * f) + k))), s0.2)) (fun _ h => h) ?_
    refine ih (k + 1) ((mU s0.1 65 ((20 * t) + k) (s0.1 65 ((20 * f) + k))), s0.2) (by omega) (fun j hj => ?_) (fun j hj => ?_) (Fr.trans hf (Fr.mU (by decide)))
    · by_cases e : j = k
      · subst e
        exact (mU_at (f := s0.1) (p := 65) (k := 20 * t + j)).trans (h2 _ (by omega))
      · exact (mU_row (by omega)).trans (h1 j (by omega))
    · exact (mU_row (by omega)).trans (h2 j (by omega))
theorem cp_0_1 {st s : mSt} {v : Nat → Int32} {u : Nat → Nat} (h : ∀ j, j < 20 → s.1 65 (20 * 1 + j) = st.1 65 (20 * 0 + j)) (hM : NM0 st v u) : NM1 s v u := by
  refine ⟨fun j hj => ?_, fun j h3 hj => ?_⟩
  · have e := h j (by omega)
    have e2 := hM.1 j hj
    rw [show 20 * 1 + j = 20 + j by omega, show 20 * 0 + j = j by omega] at e
    exact e.trans e2
  · have e := h j (by omega)
    have e2 := hM.2 j h3 hj
    rw [show 20 * 1 + j = 20 + j by omega, show 20 * 0 + j = j by omega] at e
    exact e.trans e2
theorem cp_0_2 {st s : mSt} {v : Nat → Int32} {u : Nat → Nat} (h : ∀ j, j < 20 → s.1 65 (20 * 2 + j) = st.1 65 (20 * 0 + j)) (hM : NM0 st v u) : NM2 s v u := by
  refine ⟨fun j hj => ?_, fun j h3 hj => ?_⟩
  · have e := h j (by omega)
    have e2 := hM.1 j hj
    rw [show 20 * 2 + j = 40 + j by omega, show 20 * 0 + j = j by omega] at e
    exact e.trans e2
  · have e := h j (by omega)
    have e2 := hM.2 j h3 hj
    rw [show 20 * 2 + j = 40 + j by omega, show 20 * 0 + j = j by omega] at e
    exact e.trans e2
theorem cp_1_0 {st s : mSt} {v : Nat → Int32} {u : Nat → Nat} (h : ∀ j, j < 20 → s.1 65 (20 * 0 + j) = st.1 65 (20 * 1 + j)) (hM : NM1 st v u) : NM0 s v u := by
  refine ⟨fun j hj => ?_, fun j h3 hj => ?_⟩
  · have e := h j (by omega)
    have e2 := hM.1 j hj
    rw [show 20 * 0 + j = j by omega, show 20 * 1 + j = 20 + j by omega] at e
    exact e.trans e2
  · have e := h j (by omega)
    have e2 := hM.2 j h3 hj
    rw [show 20 * 0 + j = j by omega, show 20 * 1 + j = 20 + j by omega] at e
    exact e.trans e2
theorem cp_2_0 {st s : mSt} {v : Nat → Int32} {u : Nat → Nat} (h : ∀ j, j < 20 → s.1 65 (20 * 0 + j) = st.1 65 (20 * 2 + j)) (hM : NM2 st v u) : NM0 s v u := by
  refine ⟨fun j hj => ?_, fun j h3 hj => ?_⟩
  · have e := h j (by omega)
    have e2 := hM.1 j hj
    rw [show 20 * 0 + j = j by omega, show 20 * 2 + j = 40 + j by omega] at e
    exact e.trans e2
  · have e := h j (by omega)
    have e2 := hM.2 j h3 hj
    rw [show 20 * 0 + j = j by omega, show 20 * 2 + j = 40 + j by omega] at e
    exact e.trans e2
theorem co_0_1 {st s : mSt} {v : Nat → Int32} {u : Nat → Nat} (h : ∀ j, ¬ (20 * 0 ≤ j ∧ j < 20 * 0 + 20) → s.1 65 j = st.1 65 j) (hM : NM1 st v u) : NM1 s v u :=
  ⟨fun j hj => (h _ (by omega)).trans (hM.1 j hj), fun j h3 hj => (h _ (by omega)).trans (hM.2 j h3 hj)⟩
theorem co_0_2 {st s : mSt} {v : Nat → Int32} {u : Nat → Nat} (h : ∀ j, ¬ (20 * 0 ≤ j ∧ j < 20 * 0 + 20) → s.1 65 j = st.1 65 j) (hM : NM2 st v u) : NM2 s v u :=
  ⟨fun j hj => (h _ (by omega)).trans (hM.1 j hj), fun j h3 hj => (h _ (by omega)).trans (hM.2 j h3 hj)⟩
theorem co_1_0 {st s : mSt} {v : Nat → Int32} {u : Nat → Nat} (h : ∀ j, ¬ (20 * 1 ≤ j ∧ j < 20 * 1 + 20) → s.1 65 j = st.1 65 j) (hM : NM0 st v u) : NM0 s v u :=
  ⟨fun j hj => (h _ (by omega)).trans (hM.1 j hj), fun j h3 hj => (h _ (by omega)).trans (hM.2 j h3 hj)⟩
theorem co_1_2 {st s : mSt} {v : Nat → Int32} {u : Nat → Nat} (h : ∀ j, ¬ (20 * 1 ≤ j ∧ j < 20 * 1 + 20) → s.1 65 j = st.1 65 j) (hM : NM2 st v u) : NM2 s v u :=
  ⟨fun j hj => (h _ (by omega)).trans (hM.1 j hj), fun j h3 hj => (h _ (by omega)).trans (hM.2 j h3 hj)⟩
theorem co_2_0 {st s : mSt} {v : Nat → Int32} {u : Nat → Nat} (h : ∀ j, ¬ (20 * 2 ≤ j ∧ j < 20 * 2 + 20) → s.1 65 j = st.1 65 j) (hM : NM0 st v u) : NM0 s v u :=
  ⟨fun j hj => (h _ (by omega)).trans (hM.1 j hj), fun j h3 hj => (h _ (by omega)).trans (hM.2 j h3 hj)⟩
theorem co_2_1 {st s : mSt} {v : Nat → Int32} {u : Nat → Nat} (h : ∀ j, ¬ (20 * 2 ≤ j ∧ j < 20 * 2 + 20) → s.1 65 j = st.1 65 j) (hM : NM1 st v u) : NM1 s v u :=
  ⟨fun j hj => (h _ (by omega)).trans (hM.1 j hj), fun j h3 hj => (h _ (by omega)).trans (hM.2 j h3 hj)⟩
set_option maxRecDepth 20000 in
theorem m_keep_no (d : Nat) (x : Int32) (st : mSt) (hx : ¬ (0 ≤ x ∧ x < 2)) : mMC mT (d + 2) 186 [.ref 53, .int x] st (some (.int (-1))) st := by
  refine mI_X10_keep (d := d + 1) (Nat.le_of_ble_eq_true rfl) (fun Q hq => ?_)
  show mW (mMC mT (d + 1)) (0, fun _ => 0) (mAtL P_X10_keep) (some .int) Q 0 [some (.ref 53), some (.int x)] [] st
  refine w_blk 3 (pc' := 3) (ls' := [some (.ref 53), some (.int x)]) (sk' := [.int 1, .int 0, .int x]) (st' := st) (fun _ h => h) ?_
  refine w_callS (As := [.int x, .int 0, .int 1]) (rest := []) rfl rfl rfl (Nat.le_of_ble_eq_true rfl) (Nat.le_of_ble_eq_true rfl) (m_in (d + 0) x 0 1 st) ?_
  refine w_if_ne rfl (fun hno => absurd hno (not_not_intro (pI_f (fun h => hx ((show (0 ≤ x ∧ x ≤ 1) ↔ (0 ≤ x ∧ x < 2) from ⟨fun h => ⟨h.1, by have := h.2; simp only [Int32.le_iff_toInt_le, Int32.lt_iff_toInt_lt] at *; have e1 : (1 : Int32).toInt = 1 := rfl; have e2 : (2 : Int32).toInt = 2 := rfl; omega⟩, fun h => ⟨h.1, by have := h.2; simp only [Int32.le_iff_toInt_le, Int32.lt_iff_toInt_lt] at *; have e1 : (1 : Int32).toInt = 1 := rfl; have e2 : (2 : Int32).toInt = 2 := rfl; omega⟩⟩).mp h))))) (fun _ => ?_)
  refine w_blk 1 (pc' := 10) (ls' := [some (.ref 53), some (.int x)]) (sk' := [.int (-1)]) (st' := st) (fun _ h => h) ?_
  exact w_iret rfl rfl rfl hq
set_option maxRecDepth 20000 in
theorem m_back_no (d : Nat) (x : Int32) (st : mSt) (hx : ¬ (0 ≤ x ∧ x < 2)) : mMC mT (d + 2) 187 [.ref 53, .int x] st (some (.int (-1))) st := by
  refine mI_X10_back (d := d + 1) (Nat.le_of_ble_eq_true rfl) (fun Q hq => ?_)
  show mW (mMC mT (d + 1)) (0, fun _ => 0) (mAtL P_X10_back) (some .int) Q 0 [some (.ref 53), some (.int x)] [] st
  refine w_blk 3 (pc' := 3) (ls' := [some (.ref 53), some (.int x)]) (sk' := [.int 1, .int 0, .int x]) (st' := st) (fun _ h => h) ?_
  refine w_callS (As := [.int x, .int 0, .int 1]) (rest := []) rfl rfl rfl (Nat.le_of_ble_eq_true rfl) (Nat.le_of_ble_eq_true rfl) (m_in (d + 0) x 0 1 st) ?_
  refine w_if_ne rfl (fun hno => absurd hno (not_not_intro (pI_f (fun h => hx ((show (0 ≤ x ∧ x ≤ 1) ↔ (0 ≤ x ∧ x < 2) from ⟨fun h => ⟨h.1, by have := h.2; simp only [Int32.le_iff_toInt_le, Int32.lt_iff_toInt_lt] at *; have e1 : (1 : Int32).toInt = 1 := rfl; have e2 : (2 : Int32).toInt = 2 := rfl; omega⟩, fun h => ⟨h.1, by have := h.2; simp only [Int32.le_iff_toInt_le, Int32.lt_iff_toInt_lt] at *; have e1 : (1 : Int32).toInt = 1 := rfl; have e2 : (2 : Int32).toInt = 2 := rfl; omega⟩⟩).mp h))))) (fun _ => ?_)
  refine w_blk 1 (pc' := 10) (ls' := [some (.ref 53), some (.int x)]) (sk' := [.int (-1)]) (st' := st) (fun _ h => h) ?_
  exact w_iret rfl rfl rfl hq
set_option maxRecDepth 20000 in
theorem m_keep_0 (d : Nat) (v : Nat → Int32) (u : Nat → Nat)  (st : mSt) (hM : NM0 st v u) : ∃ (s : mSt), mMC mT (d + 2) 186 [.ref 53, .int 0] st (some (.int (v 0))) s ∧ NM1 s v u ∧ NM0 s v u ∧ (∀ v2 u2, NM2 st v2 u2 → NM2 s v2 u2) ∧ s.1 66 0 = 1 ∧ s.1 66 1 = st.1 66 1 ∧ Fr [65, 66] st s := by
  suffices H : ∀ Q : Option Value → mSt → Prop, (∀ (s : mSt), (NM1 s v u ∧ NM0 s v u ∧ (∀ v2 u2, NM2 st v2 u2 → NM2 s v2 u2) ∧ s.1 66 0 = 1 ∧ s.1 66 1 = st.1 66 1 ∧ Fr [65, 66] st s) → Q (some (.int (v 0))) s) → mW (mMC mT (d + 1)) (0, fun _ => 0) (mAtL P_X10_keep) (some .int) Q 0 [some (.ref 53), some (.int 0)] [] st by
    obtain ⟨_, _, ⟨s, rfl, rfl, hp⟩, hw⟩ := mW_ex (H (fun vv tt => ∃ (s : mSt),  vv = some (.int (v 0)) ∧ s = tt ∧ NM1 s v u ∧ NM0 s v u ∧ (∀ v2 u2, NM2 st v2 u2 → NM2 s v2 u2) ∧ s.1 66 0 = 1 ∧ s.1 66 1 = st.1 66 1 ∧ Fr [65, 66] st s) (fun s hp => ⟨s, rfl, rfl, hp⟩))
    exact ⟨s, mI_X10_keep (d := d + 1) (Nat.le_of_ble_eq_true rfl) hw, hp⟩
  intro Q hq
  refine w_blk 3 (pc' := 3) (ls' := [some (.ref 53), some (.int 0)]) (sk' := [.int 1, .int 0, .int 0]) (st' := st) (fun _ h => h) ?_
  refine w_callS (As := [.int 0, .int 0, .int 1]) (rest := []) rfl rfl rfl (Nat.le_of_ble_eq_true rfl) (Nat.le_of_ble_eq_true rfl) (m_in (d + 0) 0 0 1 st) ?_
  refine w_if_ne rfl (fun _ => ?_) (fun hno => absurd (pI_ne.mpr (show (0 : Int32) ≤ 0 ∧ (0 : Int32) ≤ 1 by decide)) hno)
  refine w_blk 5 (pc' := 16) (ls' := [some (.ref 53), some (.int 0)]) (sk' := [.int (1 + 0), .int 0, .ref 53]) (st' := st) (fun _ h => h) ?_
  rw [show ((1 + 0) : Int32) = nI 1 from by decide]
  obtain ⟨s1, hc_2, hd_3, he_4, hf_5⟩ := m_copy (d + 0) 0 1 st (by decide) (by decide) (by decide)
  refine w_callV (As := [.ref 53, .int (nI 0), .int (nI 1)]) (rest := []) rfl rfl rfl (Nat.le_of_ble_eq_true rfl) (Nat.le_of_ble_eq_true rfl) (by first | exact Or.inl ⟨rfl, rfl⟩ | exact Or.inr ⟨rfl, rfl⟩) hc_2 ?_
  refine w_blk 4 (pc' := 25) (ls' := [some (.ref 53), some (.int 0)]) (sk' := [.int 1, .int 0, .ref 66]) (st' := s1) (fun _ h => h) ?_
  refine w_bast2 rfl rfl (vp_in_nI (n := 0) (N := 2) (by decide) (by decide)) (Or.inr rfl) ?_
  rw [show Int32.toNatClampNeg (0 : Int32) = 0 from rfl]
  have hM0 := co_1_0 he_4 hM
  refine w_blk 3 (pc' := 31) (ls' := [some (.ref 53), some (.int 0)]) (sk' := [.int 0, .ref 65]) (st' := ((mU s1.1 66 0 1), s1.2)) (fun _ h => h) ?_
  refine w_iald rfl rfl (vp_in_nI (n := 0) (N := 60) (by decide) (by decide)) ?_
  rw [show Int32.toNatClampNeg (0 : Int32) = 0 from rfl]
  show mW (mMC mT (d + 1)) (0, fun _ => 0) (mAtL P_X10_keep) (some .int) Q 32 [some (.ref 53), some (.int 0)] [.int (s1.1 65 0)] ((mU s1.1 66 0 1), s1.2)
  rw [hM0.1 0 (by omega)]
  exact w_iret rfl rfl rfl (hq _ ⟨cp_0_1 hd_3 hM, hM0, fun v2 u2 h => co_1_2 he_4 h, mU_at (f := s1.1) (p := 66) (k := 0), (mU_row (f := s1.1) (p := 66) (k := 0) (j := 1) (x := 1) (by decide)).trans (by rw [hf_5.1 66 (by decide)]), Fr.trans (Fr.mono hf_5 (by decide)) (Fr.mU (by decide))⟩)
set_option maxRecDepth 20000 in
theorem m_back_0 (d : Nat) (v : Nat → Int32) (u : Nat → Nat)  (st : mSt) (hMi : NM1 st v u) (hk1 : st.1 66 0 = 1) : ∃ (s : mSt), mMC mT (d + 2) 187 [.ref 53, .int 0] st (some (.int (v 0))) s ∧ NM0 s v u ∧ (∀ v2 u2, NM1 st v2 u2 → NM1 s v2 u2) ∧ (∀ v2 u2, NM2 st v2 u2 → NM2 s v2 u2) ∧ Fr [65] st s := by
  suffices H : ∀ Q : Option Value → mSt → Prop, (∀ (s : mSt), (NM0 s v u ∧ (∀ v2 u2, NM1 st v2 u2 → NM1 s v2 u2) ∧ (∀ v2 u2, NM2 st v2 u2 → NM2 s v2 u2) ∧ Fr [65] st s) → Q (some (.int (v 0))) s) → mW (mMC mT (d + 1)) (0, fun _ => 0) (mAtL P_X10_back) (some .int) Q 0 [some (.ref 53), some (.int 0)] [] st by
    obtain ⟨_, _, ⟨s, rfl, rfl, hp⟩, hw⟩ := mW_ex (H (fun vv tt => ∃ (s : mSt),  vv = some (.int (v 0)) ∧ s = tt ∧ NM0 s v u ∧ (∀ v2 u2, NM1 st v2 u2 → NM1 s v2 u2) ∧ (∀ v2 u2, NM2 st v2 u2 → NM2 s v2 u2) ∧ Fr [65] st s) (fun s hp => ⟨s, rfl, rfl, hp⟩))
    exact ⟨s, mI_X10_back (d := d + 1) (Nat.le_of_ble_eq_true rfl) hw, hp⟩
  intro Q hq
  refine w_blk 3 (pc' := 3) (ls' := [some (.ref 53), some (.int 0)]) (sk' := [.int 1, .int 0, .int 0]) (st' := st) (fun _ h => h) ?_
  refine w_callS (As := [.int 0, .int 0, .int 1]) (rest := []) rfl rfl rfl (Nat.le_of_ble_eq_true rfl) (Nat.le_of_ble_eq_true rfl) (m_in (d + 0) 0 0 1 st) ?_
  refine w_if_ne rfl (fun _ => ?_) (fun hno => absurd (pI_ne.mpr (show (0 : Int32) ≤ 0 ∧ (0 : Int32) ≤ 1 by decide)) hno)
  refine w_blk 3 (pc' := 16) (ls' := [some (.ref 53), some (.int 0)]) (sk' := [.int 0, .ref 66]) (st' := st) (fun _ h => h) ?_
  refine w_bald2 rfl rfl (vp_in_nI (n := 0) (N := 2) (by decide) (by decide)) ?_
  rw [show Int32.toNatClampNeg (0 : Int32) = 0 from rfl]
  rw [hk1]
  refine w_if_ne rfl (fun _ => ?_) (fun hno => absurd (by decide) hno)
  refine w_blk 5 (pc' := 28) (ls' := [some (.ref 53), some (.int 0)]) (sk' := [.int 0, .int (1 + 0), .ref 53]) (st' := st) (fun _ h => h) ?_
  rw [show ((1 + 0) : Int32) = nI 1 from by decide]
  obtain ⟨s1, hc_2, hd_3, he_4, hf_5⟩ := m_copy (d + 0) 1 0 st (by decide) (by decide) (by decide)
  refine w_callV (As := [.ref 53, .int (nI 1), .int (nI 0)]) (rest := []) rfl rfl rfl (Nat.le_of_ble_eq_true rfl) (Nat.le_of_ble_eq_true rfl) (by first | exact Or.inl ⟨rfl, rfl⟩ | exact Or.inr ⟨rfl, rfl⟩) hc_2 ?_
  have hM0 := cp_1_0 hd_3 hMi
  refine w_blk 3 (pc' := 36) (ls' := [some (.ref 53), some (.int 0)]) (sk' := [.int 0, .ref 65]) (st' := s1) (fun _ h => h) ?_
  refine w_iald rfl rfl (vp_in_nI (n := 0) (N := 60) (by decide) (by decide)) ?_
  rw [show Int32.toNatClampNeg (0 : Int32) = 0 from rfl]
  rw [hM0.1 0 (by omega)]
  exact w_iret rfl rfl rfl (hq _ ⟨hM0, fun v2 u2 h => co_0_1 he_4 h, fun v2 u2 h => co_0_2 he_4 h, hf_5⟩)
set_option maxRecDepth 20000 in
theorem m_back_none_0 (d : Nat)  (st : mSt) (hk0 : st.1 66 0 = 0) : mMC mT (d + 2) 187 [.ref 53, .int 0] st (some (.int (-2))) st := by
  refine mI_X10_back (d := d + 1) (Nat.le_of_ble_eq_true rfl) (fun Q hq => ?_)
  show mW (mMC mT (d + 1)) (0, fun _ => 0) (mAtL P_X10_back) (some .int) Q 0 [some (.ref 53), some (.int 0)] [] st
  refine w_blk 3 (pc' := 3) (ls' := [some (.ref 53), some (.int 0)]) (sk' := [.int 1, .int 0, .int 0]) (st' := st) (fun _ h => h) ?_
  refine w_callS (As := [.int 0, .int 0, .int 1]) (rest := []) rfl rfl rfl (Nat.le_of_ble_eq_true rfl) (Nat.le_of_ble_eq_true rfl) (m_in (d + 0) 0 0 1 st) ?_
  refine w_if_ne rfl (fun _ => ?_) (fun hno => absurd (pI_ne.mpr (show (0 : Int32) ≤ 0 ∧ (0 : Int32) ≤ 1 by decide)) hno)
  refine w_blk 3 (pc' := 16) (ls' := [some (.ref 53), some (.int 0)]) (sk' := [.int 0, .ref 66]) (st' := st) (fun _ h => h) ?_
  refine w_bald2 rfl rfl (vp_in_nI (n := 0) (N := 2) (by decide) (by decide)) ?_
  rw [show Int32.toNatClampNeg (0 : Int32) = 0 from rfl]
  rw [hk0]
  refine w_if_ne rfl (fun hno => absurd hno (by decide)) (fun _ => ?_)
  refine w_blk 1 (pc' := 22) (ls' := [some (.ref 53), some (.int 0)]) (sk' := [.int (-2)]) (st' := st) (fun _ h => h) ?_
  exact w_iret rfl rfl rfl hq
set_option maxRecDepth 20000 in
theorem m_keep_1 (d : Nat) (v : Nat → Int32) (u : Nat → Nat)  (st : mSt) (hM : NM0 st v u) : ∃ (s : mSt), mMC mT (d + 2) 186 [.ref 53, .int 1] st (some (.int (v 0))) s ∧ NM2 s v u ∧ NM0 s v u ∧ (∀ v2 u2, NM1 st v2 u2 → NM1 s v2 u2) ∧ s.1 66 1 = 1 ∧ s.1 66 0 = st.1 66 0 ∧ Fr [65, 66] st s := by
  suffices H : ∀ Q : Option Value → mSt → Prop, (∀ (s : mSt), (NM2 s v u ∧ NM0 s v u ∧ (∀ v2 u2, NM1 st v2 u2 → NM1 s v2 u2) ∧ s.1 66 1 = 1 ∧ s.1 66 0 = st.1 66 0 ∧ Fr [65, 66] st s) → Q (some (.int (v 0))) s) → mW (mMC mT (d + 1)) (0, fun _ => 0) (mAtL P_X10_keep) (some .int) Q 0 [some (.ref 53), some (.int 1)] [] st by
    obtain ⟨_, _, ⟨s, rfl, rfl, hp⟩, hw⟩ := mW_ex (H (fun vv tt => ∃ (s : mSt),  vv = some (.int (v 0)) ∧ s = tt ∧ NM2 s v u ∧ NM0 s v u ∧ (∀ v2 u2, NM1 st v2 u2 → NM1 s v2 u2) ∧ s.1 66 1 = 1 ∧ s.1 66 0 = st.1 66 0 ∧ Fr [65, 66] st s) (fun s hp => ⟨s, rfl, rfl, hp⟩))
    exact ⟨s, mI_X10_keep (d := d + 1) (Nat.le_of_ble_eq_true rfl) hw, hp⟩
  intro Q hq
  refine w_blk 3 (pc' := 3) (ls' := [some (.ref 53), some (.int 1)]) (sk' := [.int 1, .int 0, .int 1]) (st' := st) (fun _ h => h) ?_
  refine w_callS (As := [.int 1, .int 0, .int 1]) (rest := []) rfl rfl rfl (Nat.le_of_ble_eq_true rfl) (Nat.le_of_ble_eq_true rfl) (m_in (d + 0) 1 0 1 st) ?_
  refine w_if_ne rfl (fun _ => ?_) (fun hno => absurd (pI_ne.mpr (show (0 : Int32) ≤ 1 ∧ (1 : Int32) ≤ 1 by decide)) hno)
  refine w_blk 5 (pc' := 16) (ls' := [some (.ref 53), some (.int 1)]) (sk' := [.int (1 + 1), .int 0, .ref 53]) (st' := st) (fun _ h => h) ?_
  rw [show ((1 + 1) : Int32) = nI 2 from by decide]
  obtain ⟨s1, hc_2, hd_3, he_4, hf_5⟩ := m_copy (d + 0) 0 2 st (by decide) (by decide) (by decide)
  refine w_callV (As := [.ref 53, .int (nI 0), .int (nI 2)]) (rest := []) rfl rfl rfl (Nat.le_of_ble_eq_true rfl) (Nat.le_of_ble_eq_true rfl) (by first | exact Or.inl ⟨rfl, rfl⟩ | exact Or.inr ⟨rfl, rfl⟩) hc_2 ?_
  refine w_blk 4 (pc' := 25) (ls' := [some (.ref 53), some (.int 1)]) (sk' := [.int 1, .int 1, .ref 66]) (st' := s1) (fun _ h => h) ?_
  refine w_bast2 rfl rfl (vp_in_nI (n := 1) (N := 2) (by decide) (by decide)) (Or.inr rfl) ?_
  rw [show Int32.toNatClampNeg (1 : Int32) = 1 from rfl]
  have hM0 := co_2_0 he_4 hM
  refine w_blk 3 (pc' := 31) (ls' := [some (.ref 53), some (.int 1)]) (sk' := [.int 0, .ref 65]) (st' := ((mU s1.1 66 1 1), s1.2)) (fun _ h => h) ?_
  refine w_iald rfl rfl (vp_in_nI (n := 0) (N := 60) (by decide) (by decide)) ?_
  rw [show Int32.toNatClampNeg (0 : Int32) = 0 from rfl]
  show mW (mMC mT (d + 1)) (0, fun _ => 0) (mAtL P_X10_keep) (some .int) Q 32 [some (.ref 53), some (.int 1)] [.int (s1.1 65 0)] ((mU s1.1 66 1 1), s1.2)
  rw [hM0.1 0 (by omega)]
  exact w_iret rfl rfl rfl (hq _ ⟨cp_0_2 hd_3 hM, hM0, fun v2 u2 h => co_2_1 he_4 h, mU_at (f := s1.1) (p := 66) (k := 1), (mU_row (f := s1.1) (p := 66) (k := 1) (j := 0) (x := 1) (by decide)).trans (by rw [hf_5.1 66 (by decide)]), Fr.trans (Fr.mono hf_5 (by decide)) (Fr.mU (by decide))⟩)
set_option maxRecDepth 20000 in
theorem m_back_1 (d : Nat) (v : Nat → Int32) (u : Nat → Nat)  (st : mSt) (hMi : NM2 st v u) (hk1 : st.1 66 1 = 1) : ∃ (s : mSt), mMC mT (d + 2) 187 [.ref 53, .int 1] st (some (.int (v 0))) s ∧ NM0 s v u ∧ (∀ v2 u2, NM1 st v2 u2 → NM1 s v2 u2) ∧ (∀ v2 u2, NM2 st v2 u2 → NM2 s v2 u2) ∧ Fr [65] st s := by
  suffices H : ∀ Q : Option Value → mSt → Prop, (∀ (s : mSt), (NM0 s v u ∧ (∀ v2 u2, NM1 st v2 u2 → NM1 s v2 u2) ∧ (∀ v2 u2, NM2 st v2 u2 → NM2 s v2 u2) ∧ Fr [65] st s) → Q (some (.int (v 0))) s) → mW (mMC mT (d + 1)) (0, fun _ => 0) (mAtL P_X10_back) (some .int) Q 0 [some (.ref 53), some (.int 1)] [] st by
    obtain ⟨_, _, ⟨s, rfl, rfl, hp⟩, hw⟩ := mW_ex (H (fun vv tt => ∃ (s : mSt),  vv = some (.int (v 0)) ∧ s = tt ∧ NM0 s v u ∧ (∀ v2 u2, NM1 st v2 u2 → NM1 s v2 u2) ∧ (∀ v2 u2, NM2 st v2 u2 → NM2 s v2 u2) ∧ Fr [65] st s) (fun s hp => ⟨s, rfl, rfl, hp⟩))
    exact ⟨s, mI_X10_back (d := d + 1) (Nat.le_of_ble_eq_true rfl) hw, hp⟩
  intro Q hq
  refine w_blk 3 (pc' := 3) (ls' := [some (.ref 53), some (.int 1)]) (sk' := [.int 1, .int 0, .int 1]) (st' := st) (fun _ h => h) ?_
  refine w_callS (As := [.int 1, .int 0, .int 1]) (rest := []) rfl rfl rfl (Nat.le_of_ble_eq_true rfl) (Nat.le_of_ble_eq_true rfl) (m_in (d + 0) 1 0 1 st) ?_
  refine w_if_ne rfl (fun _ => ?_) (fun hno => absurd (pI_ne.mpr (show (0 : Int32) ≤ 1 ∧ (1 : Int32) ≤ 1 by decide)) hno)
  refine w_blk 3 (pc' := 16) (ls' := [some (.ref 53), some (.int 1)]) (sk' := [.int 1, .ref 66]) (st' := st) (fun _ h => h) ?_
  refine w_bald2 rfl rfl (vp_in_nI (n := 1) (N := 2) (by decide) (by decide)) ?_
  rw [show Int32.toNatClampNeg (1 : Int32) = 1 from rfl]
  rw [hk1]
  refine w_if_ne rfl (fun _ => ?_) (fun hno => absurd (by decide) hno)
  refine w_blk 5 (pc' := 28) (ls' := [some (.ref 53), some (.int 1)]) (sk' := [.int 0, .int (1 + 1), .ref 53]) (st' := st) (fun _ h => h) ?_
  rw [show ((1 + 1) : Int32) = nI 2 from by decide]
  obtain ⟨s1, hc_2, hd_3, he_4, hf_5⟩ := m_copy (d + 0) 2 0 st (by decide) (by decide) (by decide)
  refine w_callV (As := [.ref 53, .int (nI 2), .int (nI 0)]) (rest := []) rfl rfl rfl (Nat.le_of_ble_eq_true rfl) (Nat.le_of_ble_eq_true rfl) (by first | exact Or.inl ⟨rfl, rfl⟩ | exact Or.inr ⟨rfl, rfl⟩) hc_2 ?_
  have hM0 := cp_2_0 hd_3 hMi
  refine w_blk 3 (pc' := 36) (ls' := [some (.ref 53), some (.int 1)]) (sk' := [.int 0, .ref 65]) (st' := s1) (fun _ h => h) ?_
  refine w_iald rfl rfl (vp_in_nI (n := 0) (N := 60) (by decide) (by decide)) ?_
  rw [show Int32.toNatClampNeg (0 : Int32) = 0 from rfl]
  rw [hM0.1 0 (by omega)]
  exact w_iret rfl rfl rfl (hq _ ⟨hM0, fun v2 u2 h => co_0_1 he_4 h, fun v2 u2 h => co_0_2 he_4 h, hf_5⟩)
set_option maxRecDepth 20000 in
theorem m_back_none_1 (d : Nat)  (st : mSt) (hk0 : st.1 66 1 = 0) : mMC mT (d + 2) 187 [.ref 53, .int 1] st (some (.int (-2))) st := by
  refine mI_X10_back (d := d + 1) (Nat.le_of_ble_eq_true rfl) (fun Q hq => ?_)
  show mW (mMC mT (d + 1)) (0, fun _ => 0) (mAtL P_X10_back) (some .int) Q 0 [some (.ref 53), some (.int 1)] [] st
  refine w_blk 3 (pc' := 3) (ls' := [some (.ref 53), some (.int 1)]) (sk' := [.int 1, .int 0, .int 1]) (st' := st) (fun _ h => h) ?_
  refine w_callS (As := [.int 1, .int 0, .int 1]) (rest := []) rfl rfl rfl (Nat.le_of_ble_eq_true rfl) (Nat.le_of_ble_eq_true rfl) (m_in (d + 0) 1 0 1 st) ?_
  refine w_if_ne rfl (fun _ => ?_) (fun hno => absurd (pI_ne.mpr (show (0 : Int32) ≤ 1 ∧ (1 : Int32) ≤ 1 by decide)) hno)
  refine w_blk 3 (pc' := 16) (ls' := [some (.ref 53), some (.int 1)]) (sk' := [.int 1, .ref 66]) (st' := st) (fun _ h => h) ?_
  refine w_bald2 rfl rfl (vp_in_nI (n := 1) (N := 2) (by decide) (by decide)) ?_
  rw [show Int32.toNatClampNeg (1 : Int32) = 1 from rfl]
  rw [hk0]
  refine w_if_ne rfl (fun hno => absurd hno (by decide)) (fun _ => ?_)
  refine w_blk 1 (pc' := 22) (ls' := [some (.ref 53), some (.int 1)]) (sk' := [.int (-2)]) (st' := st) (fun _ h => h) ?_
  exact w_iret rfl rfl rfl hq
theorem pop_le (b : Nat) : ∀ k, pop b k ≤ k := by
  intro k
  induction k with
  | zero => exact Nat.le_refl _
  | succ k ih =>
    show pop b k + (if b.testBit k = true then 1 else 0) ≤ k + 1
    split <;> omega
set_option maxRecDepth 20000 in
/-- bitsIn(b) -/
theorem m_bitsIn (d : Nat) (b : Nat) (st : mSt) (hb : b < 256) : mMC mT (d + 1) 143 [.int (nI b)] st (some (.int (nI (pop b 8)))) st := by
  refine mI_X10_bitsIn (d := d + 0) (Nat.le_of_ble_eq_true rfl) (fun Q hq => ?_)
  show mW (mMC mT (d + 0)) (0, fun _ => 0) (mAtL P_X10_bitsIn) (some .int) Q 0 [some (.int (nI b)), none, none] [] st
  refine w_blk 4 (pc' := 4) (ls' := [some (.int (nI b)), some (.int 0), some (.int 0)]) (sk' := []) (st' := st) (fun _ h => h) ?_
  have hpl : ∀ k, k ≤ 8 → pop b k ≤ k := fun k _ => pop_le b k
  have key : ∀ (m k : Nat), k + m = 8 → mW (mMC mT (d + 0)) (0, fun _ => 0) (mAtL P_X10_bitsIn) (some .int) Q 4 [some (.int (nI b)), some (.int (nI (pop b k))), some (.int (nI k))] [] st := by
    intro m
    induction m with
    | zero =>
      intro k hk
      obtain rfl : 8 = k := by omega
      refine w_blk 2 (pc' := 7) (ls' := [some (.int (nI b)), some (.int (nI (pop b 8))), some (.int (nI 8))]) (sk' := [.int 8, .int (nI 8)]) (st' := st) (fun _ h => h) ?_
      refine w_cmp_ge rfl (fun _ => ?_) (fun hno => absurd (Int32.le_refl _) hno)
      refine w_blk 1 (pc' := 25) (ls' := [some (.int (nI b)), some (.int (nI (pop b 8))), some (.int (nI 8))]) (sk' := [.int (nI (pop b 8))]) (st' := st) (fun _ h => h) ?_
      exact w_iret rfl rfl rfl hq
    | succ m ih =>
      intro k hk
      refine w_blk 2 (pc' := 7) (ls' := [some (.int (nI b)), some (.int (nI (pop b k))), some (.int (nI k))]) (sk' := [.int 8, .int (nI k)]) (st' := st) (fun _ h => h) ?_
      refine w_cmp_ge rfl (fun hno => absurd hno (nI_ge (a := k) (b := 8) (by omega) (by omega))) (fun _ => ?_)
      refine w_blk 6 (pc' := 16) (ls' := [some (.int (nI b)), some (.int (nI (pop b k))), some (.int (nI k))]) (sk' := [.int (((nI b) >>> ((nI k) &&& 31)) &&& 1), .int (nI (pop b k))]) (st' := st) (fun _ h => h) ?_
      rw [show (((nI b) >>> ((nI k) &&& 31)) &&& 1) = pI (Nat.testBit b k = true) from nI_bit (by omega) (by omega)]
      rw [show (pI (Nat.testBit b k = true)) = nI (if b.testBit k = true then 1 else 0) from by unfold pI; split <;> rfl]
      refine w_blk 1 (pc' := 17) (ls' := [some (.int (nI b)), some (.int (nI (pop b k))), some (.int (nI k))]) (sk' := [.int ((nI (pop b k)) + (nI (if b.testBit k = true then 1 else 0)))]) (st' := st) (fun _ h => h) ?_
      rw [show ((nI (pop b k)) + (nI (if b.testBit k = true then 1 else 0))) = nI ((pop b k) + (if b.testBit k = true then 1 else 0)) from nI_add (pop b k) (if b.testBit k = true then 1 else 0)]
      refine w_blk 2 (pc' := 21) (ls' := [some (.int (nI b)), some (.int (nI ((pop b k) + (if b.testBit k = true then 1 else 0)))), some (.int ((nI k) + 1))]) (sk' := []) (st' := st) (fun _ h => h) ?_
      rw [show ((nI k) + 1) = nI (k + 1) from nI_add k 1]
      refine w_blk 1 (pc' := 4) (ls' := [some (.int (nI b)), some (.int (nI ((pop b k) + (if b.testBit k = true then 1 else 0)))), some (.int (nI (k + 1)))]) (sk' := []) (st' := st) (fun _ h => h) ?_
      exact ih (k + 1) (by omega)
  exact key (8 - 0) 0 (by omega)
set_option maxRecDepth 20000 in
/-- mark -/
theorem m_mark (d : Nat) (n : Nat → Nat) (c : Nat → Nat → Nat) (v : Nat → Int32) (u : Nat → Nat) (w x : Int32) (st : mSt) (hR : MR st n c) (hM : NM0 st v u) (hB : CB n c) (hU : ∀ j, 3 ≤ j → j < 12 → u j < 256) : mMC mT (d + 3) 184 [.ref 53, .int w, .int x] st (some (.int (sp_mark n c v u w x))) (tU st 53 0 (mk_t n w x)) := by
  refine mI_X10_mark (d := d + 2) (Nat.le_of_ble_eq_true rfl) (fun Q hq => ?_)
  show mW (mMC mT (d + 2)) (0, fun _ => 0) (mAtL P_X10_mark) (some .int) Q 0 [some (.ref 53), some (.int w), some (.int x), none] [] st
  obtain ⟨hb0, hb1, hb2, hbd, hbs, hby⟩ := id hB
  refine w_blk 3 (pc' := 3) (ls' := [some (.ref 53), some (.int w), some (.int x), none]) (sk' := [.int 5, .int 0, .int w]) (st' := st) (fun _ h => h) ?_
  refine w_callS (As := [.int w, .int 0, .int 5]) (rest := []) rfl rfl rfl (Nat.le_of_ble_eq_true rfl) (Nat.le_of_ble_eq_true rfl) (m_in (d + 1) w 0 5 st) ?_
  refine w_if_eq rfl (fun h1 => ?_) (fun h1 => ?_)
  · replace h1 := pI_eq0.mp h1
    refine w_blk 1 (pc' := 19) (ls' := [some (.ref 53), some (.int w), some (.int x), none]) (sk' := [.int (-1000000)]) (st' := st) (fun _ h => h) ?_
    by_cases hx : ok0 n x
    · rw [show sp_mark n c v u w x = -1000000 from (if_pos hx).trans (by rw [if_neg (fun e => h1 (by rw [e]; decide)), if_neg (fun e => h1 (by rw [e]; decide)), if_neg (fun e => h1 (by rw [e]; decide)), if_neg (fun e => h1 (by rw [e]; decide)), if_neg (fun e => h1 (by rw [e]; decide)), if_neg (fun e => h1 (by rw [e]; decide))]), show mk_t n w x = 0 from (if_pos hx).trans (by rw [if_neg (fun e => h1 (by rw [e]; decide)), if_neg (fun e => h1 (by rw [e]; decide)), if_neg (fun e => h1 (by rw [e]; decide)), if_neg (fun e => h1 (by rw [e]; decide)), if_neg (fun e => h1 (by rw [e]; decide)), if_neg (fun e => h1 (by rw [e]; decide))]), tU_0] at hq
      exact w_iret rfl rfl rfl hq
    · rw [show sp_mark n c v u w x = -1000000 from if_neg hx, show mk_t n w x = 0 from if_neg hx, tU_0] at hq
      exact w_iret rfl rfl rfl hq
  · replace h1 := pI_ne.mp h1
    refine w_blk 2 (pc' := 11) (ls' := [some (.ref 53), some (.int w), some (.int x), none]) (sk' := [.int x, .ref 53]) (st' := st) (fun _ h => h) ?_
    refine w_callV (As := [.ref 53, .int x]) (rest := []) rfl rfl rfl (Nat.le_of_ble_eq_true rfl) (Nat.le_of_ble_eq_true rfl) (by first | exact Or.inl ⟨rfl, rfl⟩ | exact Or.inr ⟨rfl, rfl⟩) (m_isDigger (d + 0) n c x st hR hB) ?_
    refine w_if_ne rfl (fun h2 => ?_) (fun h2 => ?_)
    · replace h2 := pI_ne.mp h2
      obtain ⟨k, hk, rfl⟩ := nI_in2 (by omega) h2
      have hok : ok0 n (nI k) := nI_in3 (by omega) hk
      have ec := nI_clamp (show k < 2 ^ 31 by omega)
      refine w_blk 5 (pc' := 28) (ls' := [some (.ref 53), some (.int w), some (.int (nI k)), none]) (sk' := [.int (6 + (nI k)), .ref 65]) (st' := st) (fun _ h => h) ?_
      rw [show (6 + (nI k)) = nI (6 + k) from nI_add 6 k]
      refine w_iald rfl rfl (vp_in_nI (n := (6 + k)) (N := 60) (by omega) (by decide)) ?_
      rw [nI_clamp (show (6 + k) < 2 ^ 31 by omega)]
      rw [hM.2 (6 + k) (by omega) (by omega)]
      refine w_callS (As := [.int (nI (u (6 + k)))]) (rest := []) rfl rfl rfl (Nat.le_of_ble_eq_true rfl) (Nat.le_of_ble_eq_true rfl) (m_bitsIn (d + 1) (u (6 + k)) st (hU (6 + k) (by omega) (by omega))) ?_
      refine w_blk 2 (pc' := 34) (ls' := [some (.ref 53), some (.int w), some (.int (nI k)), some (.int (nI (pop (u (6 + k)) 8)))]) (sk' := [.int w]) (st' := st) (fun _ h => h) ?_
      by_cases hw0 : w = 0
      · subst hw0
        refine w_tblIn (t := 68) rfl (by decide) (by decide) rfl rfl ?_
        refine w_blk 9 (pc' := 83) (ls' := [some (.ref 53), some (.int 0), some (.int (nI k)), some (.int (nI (pop (u (6 + k)) 8)))]) (sk' := [.int (nI k), .ref 56]) (st' := (st.1, (mUL st.2 53 0 ((st.2 53 0) + 1)))) (fun _ h => h) ?_
        refine w_iald rfl rfl (vp_in_nI (n := k) (N := 12) (by omega) (by decide)) ?_
        rw [nI_clamp (show k < 2 ^ 31 by omega)]
        show mW (mMC mT (d + 2)) (0, fun _ => 0) (mAtL P_X10_mark) (some .int) Q 84 [some (.ref 53), some (.int 0), some (.int (nI k)), some (.int (nI (pop (u (6 + k)) 8)))] [.int (st.1 56 k)] (st.1, (mUL st.2 53 0 ((st.2 53 0) + 1)))
        rw [(hR.2.2.2.1 k (by omega)).1]
        rw [show sp_mark n c v u 0 (nI k) = nI (c 0 k) from (if_pos hok).trans (by rw [ec]; rfl), show mk_t n 0 (nI k) = 1 from (if_pos hok).trans rfl] at hq
        exact w_iret rfl rfl rfl hq
      · by_cases hw1 : w = 1
        · subst hw1
          refine w_tblIn (t := 85) rfl (by decide) (by decide) rfl rfl ?_
          refine w_blk 9 (pc' := 102) (ls' := [some (.ref 53), some (.int 1), some (.int (nI k)), some (.int (nI (pop (u (6 + k)) 8)))]) (sk' := [.int (nI k), .ref 56]) (st' := (st.1, (mUL st.2 53 0 ((st.2 53 0) + 11)))) (fun _ h => h) ?_
          refine w_iald rfl rfl (vp_in_nI (n := k) (N := 12) (by omega) (by decide)) ?_
          rw [nI_clamp (show k < 2 ^ 31 by omega)]
          show mW (mMC mT (d + 2)) (0, fun _ => 0) (mAtL P_X10_mark) (some .int) Q 103 [some (.ref 53), some (.int 1), some (.int (nI k)), some (.int (nI (pop (u (6 + k)) 8)))] [.int (st.1 56 k)] (st.1, (mUL st.2 53 0 ((st.2 53 0) + 11)))
          rw [(hR.2.2.2.1 k (by omega)).1]
          refine w_blk 2 (pc' := 105) (ls' := [some (.ref 53), some (.int 1), some (.int (nI k)), some (.int (nI (pop (u (6 + k)) 8)))]) (sk' := [.int ((nI (c 0 k)) + (nI (pop (u (6 + k)) 8)))]) (st' := (st.1, (mUL st.2 53 0 ((st.2 53 0) + 11)))) (fun _ h => h) ?_
          rw [show ((nI (c 0 k)) + (nI (pop (u (6 + k)) 8))) = nI ((c 0 k) + (pop (u (6 + k)) 8)) from nI_add (c 0 k) (pop (u (6 + k)) 8)]
          rw [show sp_mark n c v u 1 (nI k) = nI (c 0 k + pop (u (6 + k)) 8) from (if_pos hok).trans (by rw [ec]; rfl), show mk_t n 1 (nI k) = 11 from (if_pos hok).trans rfl] at hq
          exact w_iret rfl rfl rfl hq
        · by_cases hw2 : w = 2
          · subst hw2
            refine w_tblIn (t := 106) rfl (by decide) (by decide) rfl rfl ?_
            refine w_blk 9 (pc' := 123) (ls' := [some (.ref 53), some (.int 2), some (.int (nI k)), some (.int (nI (pop (u (6 + k)) 8)))]) (sk' := [.int (nI k), .ref 56]) (st' := (st.1, (mUL st.2 53 0 ((st.2 53 0) + 101)))) (fun _ h => h) ?_
            refine w_iald rfl rfl (vp_in_nI (n := k) (N := 12) (by omega) (by decide)) ?_
            rw [nI_clamp (show k < 2 ^ 31 by omega)]
            show mW (mMC mT (d + 2)) (0, fun _ => 0) (mAtL P_X10_mark) (some .int) Q 124 [some (.ref 53), some (.int 2), some (.int (nI k)), some (.int (nI (pop (u (6 + k)) 8)))] [.int (st.1 56 k)] (st.1, (mUL st.2 53 0 ((st.2 53 0) + 101)))
            rw [(hR.2.2.2.1 k (by omega)).1]
            refine w_blk 3 (pc' := 129) (ls' := [some (.ref 53), some (.int 2), some (.int (nI k)), some (.int (nI (pop (u (6 + k)) 8)))]) (sk' := [.int 0, .ref 65, .int (nI (c 0 k))]) (st' := (st.1, (mUL st.2 53 0 ((st.2 53 0) + 101)))) (fun _ h => h) ?_
            refine w_iald rfl rfl (vp_in_nI (n := 0) (N := 60) (by decide) (by decide)) ?_
            rw [show Int32.toNatClampNeg (0 : Int32) = 0 from rfl]
            show mW (mMC mT (d + 2)) (0, fun _ => 0) (mAtL P_X10_mark) (some .int) Q 130 [some (.ref 53), some (.int 2), some (.int (nI k)), some (.int (nI (pop (u (6 + k)) 8)))] [.int (st.1 65 0), .int (nI (c 0 k))] (st.1, (mUL st.2 53 0 ((st.2 53 0) + 101)))
            rw [hM.1 0 (by omega)]
            refine w_blk 1 (pc' := 131) (ls' := [some (.ref 53), some (.int 2), some (.int (nI k)), some (.int (nI (pop (u (6 + k)) 8)))]) (sk' := [.int ((nI (c 0 k)) + (v 0))]) (st' := (st.1, (mUL st.2 53 0 ((st.2 53 0) + 101)))) (fun _ h => h) ?_
            rw [show sp_mark n c v u 2 (nI k) = (nI (c 0 k) + v 0) from (if_pos hok).trans (by rw [ec]; rfl), show mk_t n 2 (nI k) = 101 from (if_pos hok).trans rfl] at hq
            exact w_iret rfl rfl rfl hq
          · by_cases hw3 : w = 3
            · subst hw3
              refine w_tblIn (t := 132) rfl (by decide) (by decide) rfl rfl ?_
              refine w_blk 10 (pc' := 150) (ls' := [some (.ref 53), some (.int 3), some (.int (nI k)), some (.int (nI (pop (u (6 + k)) 8)))]) (sk' := [.int (nI k), .ref 56, .int 2]) (st' := (st.1, (mUL st.2 53 0 ((st.2 53 0) + 1011)))) (fun _ h => h) ?_
              refine w_iald rfl rfl (vp_in_nI (n := k) (N := 12) (by omega) (by decide)) ?_
              rw [nI_clamp (show k < 2 ^ 31 by omega)]
              show mW (mMC mT (d + 2)) (0, fun _ => 0) (mAtL P_X10_mark) (some .int) Q 151 [some (.ref 53), some (.int 3), some (.int (nI k)), some (.int (nI (pop (u (6 + k)) 8)))] [.int (st.1 56 k), .int 2] (st.1, (mUL st.2 53 0 ((st.2 53 0) + 1011)))
              rw [(hR.2.2.2.1 k (by omega)).1]
              refine w_blk 2 (pc' := 153) (ls' := [some (.ref 53), some (.int 3), some (.int (nI k)), some (.int (nI (pop (u (6 + k)) 8)))]) (sk' := [.int ((nI (c 0 k)) + (nI (pop (u (6 + k)) 8))), .int 2]) (st' := (st.1, (mUL st.2 53 0 ((st.2 53 0) + 1011)))) (fun _ h => h) ?_
              rw [show ((nI (c 0 k)) + (nI (pop (u (6 + k)) 8))) = nI ((c 0 k) + (pop (u (6 + k)) 8)) from nI_add (c 0 k) (pop (u (6 + k)) 8)]
              refine w_blk 1 (pc' := 154) (ls' := [some (.ref 53), some (.int 3), some (.int (nI k)), some (.int (nI (pop (u (6 + k)) 8)))]) (sk' := [.int (2 * (nI ((c 0 k) + (pop (u (6 + k)) 8))))]) (st' := (st.1, (mUL st.2 53 0 ((st.2 53 0) + 1011)))) (fun _ h => h) ?_
              rw [show (2 * (nI ((c 0 k) + (pop (u (6 + k)) 8)))) = nI (2 * ((c 0 k) + (pop (u (6 + k)) 8))) from pk_mul 2 ((c 0 k) + (pop (u (6 + k)) 8))]
              rw [show (2 * (c 0 k + pop (u (6 + k)) 8)) = (c 0 k + pop (u (6 + k)) 8) * 2 from Nat.mul_comm _ _]
              rw [show sp_mark n c v u 3 (nI k) = nI ((c 0 k + pop (u (6 + k)) 8) * 2) from (if_pos hok).trans (by rw [ec]; rfl), show mk_t n 3 (nI k) = 1011 from (if_pos hok).trans rfl] at hq
              exact w_iret rfl rfl rfl hq
            · by_cases hw4 : w = 4
              · subst hw4
                refine w_tblIn (t := 155) rfl (by decide) (by decide) rfl rfl ?_
                refine w_blk 9 (pc' := 172) (ls' := [some (.ref 53), some (.int 4), some (.int (nI k)), some (.int (nI (pop (u (6 + k)) 8)))]) (sk' := [.int (nI k), .ref 56]) (st' := (st.1, (mUL st.2 53 0 ((st.2 53 0) + 10101)))) (fun _ h => h) ?_
                refine w_iald rfl rfl (vp_in_nI (n := k) (N := 12) (by omega) (by decide)) ?_
                rw [nI_clamp (show k < 2 ^ 31 by omega)]
                show mW (mMC mT (d + 2)) (0, fun _ => 0) (mAtL P_X10_mark) (some .int) Q 173 [some (.ref 53), some (.int 4), some (.int (nI k)), some (.int (nI (pop (u (6 + k)) 8)))] [.int (st.1 56 k)] (st.1, (mUL st.2 53 0 ((st.2 53 0) + 10101)))
                rw [(hR.2.2.2.1 k (by omega)).1]
                refine w_blk 3 (pc' := 178) (ls' := [some (.ref 53), some (.int 4), some (.int (nI k)), some (.int (nI (pop (u (6 + k)) 8)))]) (sk' := [.int 0, .ref 65, .int (nI (c 0 k))]) (st' := (st.1, (mUL st.2 53 0 ((st.2 53 0) + 10101)))) (fun _ h => h) ?_
                refine w_iald rfl rfl (vp_in_nI (n := 0) (N := 60) (by decide) (by decide)) ?_
                rw [show Int32.toNatClampNeg (0 : Int32) = 0 from rfl]
                show mW (mMC mT (d + 2)) (0, fun _ => 0) (mAtL P_X10_mark) (some .int) Q 179 [some (.ref 53), some (.int 4), some (.int (nI k)), some (.int (nI (pop (u (6 + k)) 8)))] [.int (st.1 65 0), .int (nI (c 0 k))] (st.1, (mUL st.2 53 0 ((st.2 53 0) + 10101)))
                rw [hM.1 0 (by omega)]
                refine w_blk 4 (pc' := 185) (ls' := [some (.ref 53), some (.int 4), some (.int (nI k)), some (.int (nI (pop (u (6 + k)) 8)))]) (sk' := [.int 5, .ref 65, .int ((nI (c 0 k)) + (v 0))]) (st' := (st.1, (mUL st.2 53 0 ((st.2 53 0) + 10101)))) (fun _ h => h) ?_
                refine w_iald rfl rfl (vp_in_nI (n := 5) (N := 60) (by decide) (by decide)) ?_
                rw [show Int32.toNatClampNeg (5 : Int32) = 5 from rfl]
                show mW (mMC mT (d + 2)) (0, fun _ => 0) (mAtL P_X10_mark) (some .int) Q 186 [some (.ref 53), some (.int 4), some (.int (nI k)), some (.int (nI (pop (u (6 + k)) 8)))] [.int (st.1 65 5), .int ((nI (c 0 k)) + (v 0))] (st.1, (mUL st.2 53 0 ((st.2 53 0) + 10101)))
                rw [hM.2 5 (by omega) (by omega)]
                refine w_callS (As := [.int (nI (u 5))]) (rest := [.int ((nI (c 0 k)) + (v 0))]) rfl rfl rfl (Nat.le_of_ble_eq_true rfl) (Nat.le_of_ble_eq_true rfl) (m_bitsIn (d + 1) (u 5) (st.1, (mUL st.2 53 0 ((st.2 53 0) + 10101))) (hU 5 (by omega) (by omega))) ?_
                refine w_blk 1 (pc' := 190) (ls' := [some (.ref 53), some (.int 4), some (.int (nI k)), some (.int (nI (pop (u (6 + k)) 8)))]) (sk' := [.int (((nI (c 0 k)) + (v 0)) - (nI (pop (u 5) 8)))]) (st' := (st.1, (mUL st.2 53 0 ((st.2 53 0) + 10101)))) (fun _ h => h) ?_
                rw [show sp_mark n c v u 4 (nI k) = (nI (c 0 k) + v 0 - nI (pop (u 5) 8)) from (if_pos hok).trans (by rw [ec]; rfl), show mk_t n 4 (nI k) = 10101 from (if_pos hok).trans rfl] at hq
                exact w_iret rfl rfl rfl hq
              · refine w_tblOut (t := 191) rfl (tbl_out 4 (by decide) (by intro k hk; rcases (show k = 0 ∨ k = 1 ∨ k = 2 ∨ k = 3 ∨ k = 4 by omega) with rfl | rfl | rfl | rfl | rfl <;> assumption)) rfl ?_
                have hw5 : w = 5 := by
                  obtain ⟨q, -, hq5, rfl⟩ := nI_within (a := 0) (b := 5) h1 (by decide) (by decide)
                  have f0 : q ≠ 0 := fun e => hw0 (by rw [e]; rfl)
                  have f1 : q ≠ 1 := fun e => hw1 (by rw [e]; rfl)
                  have f2 : q ≠ 2 := fun e => hw2 (by rw [e]; rfl)
                  have f3 : q ≠ 3 := fun e => hw3 (by rw [e]; rfl)
                  have f4 : q ≠ 4 := fun e => hw4 (by rw [e]; rfl)
                  rw [show q = 5 by omega]
                  rfl
                subst hw5
                refine w_blk 9 (pc' := 208) (ls' := [some (.ref 53), some (.int 5), some (.int (nI k)), some (.int (nI (pop (u (6 + k)) 8)))]) (sk' := [.int (nI k), .ref 56]) (st' := (st.1, (mUL st.2 53 0 ((st.2 53 0) + 100001)))) (fun _ h => h) ?_
                refine w_iald rfl rfl (vp_in_nI (n := k) (N := 12) (by omega) (by decide)) ?_
                rw [nI_clamp (show k < 2 ^ 31 by omega)]
                show mW (mMC mT (d + 2)) (0, fun _ => 0) (mAtL P_X10_mark) (some .int) Q 209 [some (.ref 53), some (.int 5), some (.int (nI k)), some (.int (nI (pop (u (6 + k)) 8)))] [.int (st.1 56 k)] (st.1, (mUL st.2 53 0 ((st.2 53 0) + 100001)))
                rw [(hR.2.2.2.1 k (by omega)).1]
                refine w_blk 3 (pc' := 214) (ls' := [some (.ref 53), some (.int 5), some (.int (nI k)), some (.int (nI (pop (u (6 + k)) 8)))]) (sk' := [.int (nI k), .ref 57, .int (nI (c 0 k))]) (st' := (st.1, (mUL st.2 53 0 ((st.2 53 0) + 100001)))) (fun _ h => h) ?_
                refine w_iald rfl rfl (vp_in_nI (n := k) (N := 12) (by omega) (by decide)) ?_
                rw [nI_clamp (show k < 2 ^ 31 by omega)]
                show mW (mMC mT (d + 2)) (0, fun _ => 0) (mAtL P_X10_mark) (some .int) Q 215 [some (.ref 53), some (.int 5), some (.int (nI k)), some (.int (nI (pop (u (6 + k)) 8)))] [.int (st.1 57 k), .int (nI (c 0 k))] (st.1, (mUL st.2 53 0 ((st.2 53 0) + 100001)))
                rw [(hR.2.2.2.1 k (by omega)).2.1]
                refine w_blk 1 (pc' := 216) (ls' := [some (.ref 53), some (.int 5), some (.int (nI k)), some (.int (nI (pop (u (6 + k)) 8)))]) (sk' := [.int ((nI (c 0 k)) - (nI (c 1 k)))]) (st' := (st.1, (mUL st.2 53 0 ((st.2 53 0) + 100001)))) (fun _ h => h) ?_
                rw [show sp_mark n c v u 5 (nI k) = (nI (c 0 k) - nI (c 1 k)) from (if_pos hok).trans (by rw [ec]; rfl), show mk_t n 5 (nI k) = 100001 from (if_pos hok).trans rfl] at hq
                exact w_iret rfl rfl rfl hq
    · replace h2 := pI_eq0.mp (Decidable.not_not.mp h2)
      refine w_blk 1 (pc' := 19) (ls' := [some (.ref 53), some (.int w), some (.int x), none]) (sk' := [.int (-1000000)]) (st' := st) (fun _ h => h) ?_
      rw [show sp_mark n c v u w x = -1000000 from if_neg h2, show mk_t n w x = 0 from if_neg h2, tU_0] at hq
      exact w_iret rfl rfl rfl hq
set_option maxRecDepth 20000 in
/-- trace -/
theorem m_trace (d : Nat) (st : mSt) : mMC mT (d + 1) 189 [.ref 53] st (some (.long (st.2 53 0))) st := by
  refine mI_X10_trace (d := d + 0) (Nat.le_of_ble_eq_true rfl) (fun Q hq => ?_)
  show mW (mMC mT (d + 0)) (0, fun _ => 0) (mAtL P_X10_trace) (some .long) Q 0 [some (.ref 53)] [] st
  refine w_blk 2 (pc' := 4) (ls' := [some (.ref 53)]) (sk' := [.long (st.2 53 0)]) (st' := st) (fun _ h => h) ?_
  exact w_lret rfl rfl hq
set_option maxRecDepth 20000 in
/-- hole -/
theorem m_hole (d : Nat) (a : Nat) (T C U : Nat → Nat) (t c u : Int32) (st : mSt) (hP : MH st a T C U) (ha : a ≤ 8) : ∃ (s : mSt), mMC mT (d + 2) 175 [.ref 53, .int t, .int c, .int u] st (some (.int (sp_hole a t c u))) s ∧ MH s (hl_a a t c u) (updN T a t.toNatClampNeg) (updN C a c.toNatClampNeg) (updN U a u.toNatClampNeg) ∧ Fr [53, 79, 80, 81] st s ∧ Fk 53 [33] st s := by
  suffices H : ∀ Q : Option Value → mSt → Prop, (∀ (s : mSt), (MH s (hl_a a t c u) (updN T a t.toNatClampNeg) (updN C a c.toNatClampNeg) (updN U a u.toNatClampNeg) ∧ Fr [53, 79, 80, 81] st s ∧ Fk 53 [33] st s) → Q (some (.int (sp_hole a t c u))) s) → mW (mMC mT (d + 1)) (0, fun _ => 0) (mAtL P_X10_hole) (some .int) Q 0 [some (.ref 53), some (.int t), some (.int c), some (.int u)] [] st by
    obtain ⟨_, _, ⟨s, rfl, rfl, hp⟩, hw⟩ := mW_ex (H (fun vv tt => ∃ (s : mSt),  vv = some (.int (sp_hole a t c u)) ∧ s = tt ∧ MH s (hl_a a t c u) (updN T a t.toNatClampNeg) (updN C a c.toNatClampNeg) (updN U a u.toNatClampNeg) ∧ Fr [53, 79, 80, 81] st s ∧ Fk 53 [33] st s) (fun s hp => ⟨s, rfl, rfl, hp⟩))
    exact ⟨s, mI_X10_hole (d := d + 1) (Nat.le_of_ble_eq_true rfl) hw, hp⟩
  intro Q hq
  refine w_blk 3 (pc' := 4) (ls' := [some (.ref 53), some (.int t), some (.int c), some (.int u)]) (sk' := [.int 99, .int 0, .int t]) (st' := st) (fun _ h => h) ?_
  refine w_callS (As := [.int t, .int 0, .int 99]) (rest := []) rfl rfl rfl (Nat.le_of_ble_eq_true rfl) (Nat.le_of_ble_eq_true rfl) (m_in (d + 0) t 0 99 st) ?_
  refine w_if_eq rfl (fun h1 => ?_) (fun h1 => ?_)
  · replace h1 := pI_eq0.mp h1
    refine w_blk 1 (pc' := 32) (ls' := [some (.ref 53), some (.int t), some (.int c), some (.int u)]) (sk' := [.int (-1)]) (st' := st) (fun _ h => h) ?_
    have hno : ¬ okH t c u := fun hh => by first | exact h1 hh.1 | exact h2 hh.2.1 | exact h3 hh.2.2
    exact w_iret rfl rfl rfl (by have hh := hq st; rw [show sp_hole a t c u = -1 from if_neg hno, show hl_a a t c u = a from if_neg (fun e => hno e.1)] at hh; exact hh ⟨MH_no hP _ _ _, Fr.rf, Fk.rf⟩)
  · replace h1 := pI_ne.mp h1
    refine w_blk 3 (pc' := 14) (ls' := [some (.ref 53), some (.int t), some (.int c), some (.int u)]) (sk' := [.int 99, .int 1, .int c]) (st' := st) (fun _ h => h) ?_
    refine w_callS (As := [.int c, .int 1, .int 99]) (rest := []) rfl rfl rfl (Nat.le_of_ble_eq_true rfl) (Nat.le_of_ble_eq_true rfl) (m_in (d + 0) c 1 99 st) ?_
    refine w_if_eq rfl (fun h2 => ?_) (fun h2 => ?_)
    · replace h2 := pI_eq0.mp h2
      refine w_blk 1 (pc' := 32) (ls' := [some (.ref 53), some (.int t), some (.int c), some (.int u)]) (sk' := [.int (-1)]) (st' := st) (fun _ h => h) ?_
      have hno : ¬ okH t c u := fun hh => by first | exact h1 hh.1 | exact h2 hh.2.1 | exact h3 hh.2.2
      exact w_iret rfl rfl rfl (by have hh := hq st; rw [show sp_hole a t c u = -1 from if_neg hno, show hl_a a t c u = a from if_neg (fun e => hno e.1)] at hh; exact hh ⟨MH_no hP _ _ _, Fr.rf, Fk.rf⟩)
    · replace h2 := pI_ne.mp h2
      refine w_blk 3 (pc' := 25) (ls' := [some (.ref 53), some (.int t), some (.int c), some (.int u)]) (sk' := [.int 200, .int t, .int u]) (st' := st) (fun _ h => h) ?_
      refine w_callS (As := [.int u, .int t, .int 200]) (rest := []) rfl rfl rfl (Nat.le_of_ble_eq_true rfl) (Nat.le_of_ble_eq_true rfl) (m_in (d + 0) u t 200 st) ?_
      refine w_if_ne rfl (fun h3 => ?_) (fun h3 => ?_)
      · replace h3 := pI_ne.mp h3
        have hok : okH t c u := ⟨h1, h2, h3⟩
        obtain ⟨t', -, ht99, rfl⟩ := nI_within (a := 0) (b := 99) h1 (by decide) (by decide)
        obtain ⟨c', hc1, hc99, rfl⟩ := nI_within (a := 1) (b := 99) h2 (by decide) (by decide)
        obtain ⟨u', htu, hu200, rfl⟩ := nI_within (a := t') (b := 200) h3 (by omega) (by decide)
        refine w_blk 2 (pc' := 37) (ls' := [some (.ref 53), some (.int (nI t')), some (.int (nI c')), some (.int (nI u'))]) (sk' := [.int (st.1 53 33)]) (st' := st) (fun _ h => h) ?_
        rw [hP.1]
        refine w_blk 1 (pc' := 39) (ls' := [some (.ref 53), some (.int (nI t')), some (.int (nI c')), some (.int (nI u'))]) (sk' := [.int 8, .int (nI a)]) (st' := st) (fun _ h => h) ?_
        refine w_cmp_ne rfl (fun h4 => ?_) (fun h4 => ?_)
        · replace h4 : ¬ (a = 8) := fun hh => h4 ((nI_eq (a := a) (b := 8) (by omega) (by omega)).mpr hh)
          have ec1 := nI_clamp (show t' < 2 ^ 31 by omega)
          have ec2 := nI_clamp (show c' < 2 ^ 31 by omega)
          have ec3 := nI_clamp (show u' < 2 ^ 31 by omega)
          refine w_blk 4 (pc' := 53) (ls' := [some (.ref 53), some (.int (nI t')), some (.int (nI c')), some (.int (nI u'))]) (sk' := [.int (st.1 53 33), .ref 79]) (st' := st) (fun _ h => h) ?_
          rw [hP.1]
          refine w_blk 1 (pc' := 54) (ls' := [some (.ref 53), some (.int (nI t')), some (.int (nI c')), some (.int (nI u'))]) (sk' := [.int (nI t'), .int (nI a), .ref 79]) (st' := st) (fun _ h => h) ?_
          refine w_iast rfl rfl (vp_in_nI (n := a) (N := 8) (by omega) (by decide)) ?_
          rw [nI_clamp (show a < 2 ^ 31 by omega)]
          refine w_blk 4 (pc' := 63) (ls' := [some (.ref 53), some (.int (nI t')), some (.int (nI c')), some (.int (nI u'))]) (sk' := [.int (st.1 53 33), .ref 80]) (st' := ((mU st.1 79 a (nI t')), st.2)) (fun _ h => h) ?_
          rw [hP.1]
          refine w_blk 1 (pc' := 64) (ls' := [some (.ref 53), some (.int (nI t')), some (.int (nI c')), some (.int (nI u'))]) (sk' := [.int (nI c'), .int (nI a), .ref 80]) (st' := ((mU st.1 79 a (nI t')), st.2)) (fun _ h => h) ?_
          refine w_iast rfl rfl (vp_in_nI (n := a) (N := 8) (by omega) (by decide)) ?_
          rw [nI_clamp (show a < 2 ^ 31 by omega)]
          refine w_blk 4 (pc' := 73) (ls' := [some (.ref 53), some (.int (nI t')), some (.int (nI c')), some (.int (nI u'))]) (sk' := [.int (st.1 53 33), .ref 81]) (st' := ((mU (mU st.1 79 a (nI t')) 80 a (nI c')), st.2)) (fun _ h => h) ?_
          rw [hP.1]
          refine w_blk 1 (pc' := 74) (ls' := [some (.ref 53), some (.int (nI t')), some (.int (nI c')), some (.int (nI u'))]) (sk' := [.int (nI u'), .int (nI a), .ref 81]) (st' := ((mU (mU st.1 79 a (nI t')) 80 a (nI c')), st.2)) (fun _ h => h) ?_
          refine w_iast rfl rfl (vp_in_nI (n := a) (N := 8) (by omega) (by decide)) ?_
          rw [nI_clamp (show a < 2 ^ 31 by omega)]
          refine w_blk 3 (pc' := 80) (ls' := [some (.ref 53), some (.int (nI t')), some (.int (nI c')), some (.int (nI u'))]) (sk' := [.int (st.1 53 33), .ref 53]) (st' := ((mU (mU (mU st.1 79 a (nI t')) 80 a (nI c')) 81 a (nI u')), st.2)) (fun _ h => h) ?_
          rw [hP.1]
          refine w_blk 2 (pc' := 82) (ls' := [some (.ref 53), some (.int (nI t')), some (.int (nI c')), some (.int (nI u'))]) (sk' := [.int ((nI a) + 1), .ref 53]) (st' := ((mU (mU (mU st.1 79 a (nI t')) 80 a (nI c')) 81 a (nI u')), st.2)) (fun _ h => h) ?_
          rw [show ((nI a) + 1) = nI (a + 1) from nI_add a 1]
          refine w_blk 3 (pc' := 89) (ls' := [some (.ref 53), some (.int (nI t')), some (.int (nI c')), some (.int (nI u'))]) (sk' := [.int (nI (a + 1))]) (st' := ((mU (mU (mU (mU st.1 79 a (nI t')) 80 a (nI c')) 81 a (nI u')) 53 33 (nI (a + 1))), st.2)) (fun _ h => h) ?_
          have ha8 : a < 8 := by omega
          exact w_iret rfl rfl rfl (by have hh := hq ((mU (mU (mU (mU st.1 79 a (nI t')) 80 a (nI c')) 81 a (nI u')) 53 33 (nI (a + 1))), st.2); rw [show sp_hole a (nI t') (nI c') (nI u') = nI (a + 1) from (if_pos hok).trans (if_pos ha8), show hl_a a (nI t') (nI c') (nI u') = a + 1 from if_pos ⟨hok, ha8⟩, ec1, ec2, ec3] at hh; exact hh ⟨MH_add hP t' c' u', (Fr.trans (Fr.trans (Fr.trans (Fr.trans (Fr.rf : Fr [53, 79, 80, 81] st st) (Fr.mU (by decide))) (Fr.mU (by decide))) (Fr.mU (by decide))) (Fr.mU (by decide))), (Fk.trans (Fk.trans (Fk.trans (Fk.trans (Fk.rf : Fk 53 [33] st st) (Fk.wn (by decide))) (Fk.wn (by decide))) (Fk.wn (by decide))) (Fk.wr (by decide)))⟩)
        · replace h4 : a = 8 := (nI_eq (a := a) (b := 8) (by omega) (by omega)).mp (Decidable.not_not.mp h4)
          have ec1 := nI_clamp (show t' < 2 ^ 31 by omega)
          have ec2 := nI_clamp (show c' < 2 ^ 31 by omega)
          have ec3 := nI_clamp (show u' < 2 ^ 31 by omega)
          refine w_blk 1 (pc' := 44) (ls' := [some (.ref 53), some (.int (nI t')), some (.int (nI c')), some (.int (nI u'))]) (sk' := [.int (-3)]) (st' := st) (fun _ h => h) ?_
          exact w_iret rfl rfl rfl (by have hh := hq st; rw [show sp_hole a (nI t') (nI c') (nI u') = -3 from (if_pos hok).trans (if_neg (by omega)), show hl_a a (nI t') (nI c') (nI u') = a from if_neg (fun e => by have := e.2; omega)] at hh; exact hh ⟨MH_no hP _ _ _, Fr.rf, Fk.rf⟩)
      · replace h3 := pI_eq0.mp (Decidable.not_not.mp h3)
        refine w_blk 1 (pc' := 32) (ls' := [some (.ref 53), some (.int t), some (.int c), some (.int u)]) (sk' := [.int (-1)]) (st' := st) (fun _ h => h) ?_
        have hno : ¬ okH t c u := fun hh => by first | exact h1 hh.1 | exact h2 hh.2.1 | exact h3 hh.2.2
        exact w_iret rfl rfl rfl (by have hh := hq st; rw [show sp_hole a t c u = -1 from if_neg hno, show hl_a a t c u = a from if_neg (fun e => hno e.1)] at hh; exact hh ⟨MH_no hP _ _ _, Fr.rf, Fk.rf⟩)
set_option maxRecDepth 20000 in
/-- tell -/
theorem m_tell (d : Nat) (n : Nat → Nat) (c : Nat → Nat → Nat) (a : Nat) (T C U : Nat → Nat) (r x y : Int32) (st : mSt) (hR : MR st n c) (hB : CB n c) (hP : MT st a T C U) (ha : a ≤ 30) : ∃ (s : mSt), mMC mT (d + 3) 181 [.ref 53, .int r, .int x, .int y] st (some (.int (sp_tell n a r x y))) s ∧ MT s (tl_a n a r x y) (updN T a r.toNatClampNeg) (updN C a x.toNatClampNeg) (updN U a y.toNatClampNeg) ∧ Fr [53, 83, 84, 85] st s ∧ Fk 53 [38] st s := by
  suffices H : ∀ Q : Option Value → mSt → Prop, (∀ (s : mSt), (MT s (tl_a n a r x y) (updN T a r.toNatClampNeg) (updN C a x.toNatClampNeg) (updN U a y.toNatClampNeg) ∧ Fr [53, 83, 84, 85] st s ∧ Fk 53 [38] st s) → Q (some (.int (sp_tell n a r x y))) s) → mW (mMC mT (d + 2)) (0, fun _ => 0) (mAtL P_X10_tell) (some .int) Q 0 [some (.ref 53), some (.int r), some (.int x), some (.int y)] [] st by
    obtain ⟨_, _, ⟨s, rfl, rfl, hp⟩, hw⟩ := mW_ex (H (fun vv tt => ∃ (s : mSt),  vv = some (.int (sp_tell n a r x y)) ∧ s = tt ∧ MT s (tl_a n a r x y) (updN T a r.toNatClampNeg) (updN C a x.toNatClampNeg) (updN U a y.toNatClampNeg) ∧ Fr [53, 83, 84, 85] st s ∧ Fk 53 [38] st s) (fun s hp => ⟨s, rfl, rfl, hp⟩))
    exact ⟨s, mI_X10_tell (d := d + 2) (Nat.le_of_ble_eq_true rfl) hw, hp⟩
  intro Q hq
  obtain ⟨hb0, hb1, hb2, hbd, hbs, hby⟩ := id hB
  refine w_blk 3 (pc' := 4) (ls' := [some (.ref 53), some (.int r), some (.int x), some (.int y)]) (sk' := [.int 99, .int 0, .int r]) (st' := st) (fun _ h => h) ?_
  refine w_callS (As := [.int r, .int 0, .int 99]) (rest := []) rfl rfl rfl (Nat.le_of_ble_eq_true rfl) (Nat.le_of_ble_eq_true rfl) (m_in (d + 1) r 0 99 st) ?_
  refine w_if_eq rfl (fun h1 => ?_) (fun h1 => ?_)
  · replace h1 := pI_eq0.mp h1
    refine w_blk 1 (pc' := 27) (ls' := [some (.ref 53), some (.int r), some (.int x), some (.int y)]) (sk' := [.int (-1)]) (st' := st) (fun _ h => h) ?_
    have hno : ¬ okT n r x y := fun hh => by first | exact h1 hh.1 | exact h2 hh.2.1 | exact h3 hh.2.2
    exact w_iret rfl rfl rfl (by have hh := hq st; rw [show sp_tell n a r x y = -1 from if_neg hno, show tl_a n a r x y = a from if_neg (fun e => hno e.1)] at hh; exact hh ⟨MT_no hP _ _ _, Fr.rf, Fk.rf⟩)
  · replace h1 := pI_ne.mp h1
    refine w_blk 2 (pc' := 12) (ls' := [some (.ref 53), some (.int r), some (.int x), some (.int y)]) (sk' := [.int x, .ref 53]) (st' := st) (fun _ h => h) ?_
    refine w_callV (As := [.ref 53, .int x]) (rest := []) rfl rfl rfl (Nat.le_of_ble_eq_true rfl) (Nat.le_of_ble_eq_true rfl) (by first | exact Or.inl ⟨rfl, rfl⟩ | exact Or.inr ⟨rfl, rfl⟩) (m_isDigger (d + 0) n c x st hR hB) ?_
    refine w_if_eq rfl (fun h2 => ?_) (fun h2 => ?_)
    · replace h2 := pI_eq0.mp h2
      refine w_blk 1 (pc' := 27) (ls' := [some (.ref 53), some (.int r), some (.int x), some (.int y)]) (sk' := [.int (-1)]) (st' := st) (fun _ h => h) ?_
      have hno : ¬ okT n r x y := fun hh => by first | exact h1 hh.1 | exact h2 hh.2.1 | exact h3 hh.2.2
      exact w_iret rfl rfl rfl (by have hh := hq st; rw [show sp_tell n a r x y = -1 from if_neg hno, show tl_a n a r x y = a from if_neg (fun e => hno e.1)] at hh; exact hh ⟨MT_no hP _ _ _, Fr.rf, Fk.rf⟩)
    · replace h2 := pI_ne.mp h2
      refine w_blk 2 (pc' := 20) (ls' := [some (.ref 53), some (.int r), some (.int x), some (.int y)]) (sk' := [.int y, .ref 53]) (st' := st) (fun _ h => h) ?_
      refine w_callV (As := [.ref 53, .int y]) (rest := []) rfl rfl rfl (Nat.le_of_ble_eq_true rfl) (Nat.le_of_ble_eq_true rfl) (by first | exact Or.inl ⟨rfl, rfl⟩ | exact Or.inr ⟨rfl, rfl⟩) (m_isSpade (d + 0) n c y st hR hB) ?_
      refine w_if_ne rfl (fun h3 => ?_) (fun h3 => ?_)
      · replace h3 := pI_ne.mp h3
        have hok : okT n r x y := ⟨h1, h2, h3⟩
        obtain ⟨r', -, hr99, rfl⟩ := nI_within (a := 0) (b := 99) h1 (by decide) (by decide)
        obtain ⟨k, hk, rfl⟩ := nI_in2 (by omega) h2
        obtain ⟨j, hj, rfl⟩ := nI_in2 (by omega) h3
        refine w_blk 2 (pc' := 32) (ls' := [some (.ref 53), some (.int (nI r')), some (.int (nI k)), some (.int (nI j))]) (sk' := [.int (st.1 53 38)]) (st' := st) (fun _ h => h) ?_
        rw [hP.1]
        refine w_blk 1 (pc' := 34) (ls' := [some (.ref 53), some (.int (nI r')), some (.int (nI k)), some (.int (nI j))]) (sk' := [.int 30, .int (nI a)]) (st' := st) (fun _ h => h) ?_
        refine w_cmp_ne rfl (fun h4 => ?_) (fun h4 => ?_)
        · replace h4 : ¬ (a = 30) := fun hh => h4 ((nI_eq (a := a) (b := 30) (by omega) (by omega)).mpr hh)
          have ec1 := nI_clamp (show r' < 2 ^ 31 by omega)
          have ec2 := nI_clamp (show k < 2 ^ 31 by omega)
          have ec3 := nI_clamp (show j < 2 ^ 31 by omega)
          refine w_blk 4 (pc' := 48) (ls' := [some (.ref 53), some (.int (nI r')), some (.int (nI k)), some (.int (nI j))]) (sk' := [.int (st.1 53 38), .ref 83]) (st' := st) (fun _ h => h) ?_
          rw [hP.1]
          refine w_blk 1 (pc' := 49) (ls' := [some (.ref 53), some (.int (nI r')), some (.int (nI k)), some (.int (nI j))]) (sk' := [.int (nI r'), .int (nI a), .ref 83]) (st' := st) (fun _ h => h) ?_
          refine w_iast rfl rfl (vp_in_nI (n := a) (N := 30) (by omega) (by decide)) ?_
          rw [nI_clamp (show a < 2 ^ 31 by omega)]
          refine w_blk 4 (pc' := 58) (ls' := [some (.ref 53), some (.int (nI r')), some (.int (nI k)), some (.int (nI j))]) (sk' := [.int (st.1 53 38), .ref 84]) (st' := ((mU st.1 83 a (nI r')), st.2)) (fun _ h => h) ?_
          rw [hP.1]
          refine w_blk 1 (pc' := 59) (ls' := [some (.ref 53), some (.int (nI r')), some (.int (nI k)), some (.int (nI j))]) (sk' := [.int (nI k), .int (nI a), .ref 84]) (st' := ((mU st.1 83 a (nI r')), st.2)) (fun _ h => h) ?_
          refine w_iast rfl rfl (vp_in_nI (n := a) (N := 30) (by omega) (by decide)) ?_
          rw [nI_clamp (show a < 2 ^ 31 by omega)]
          refine w_blk 4 (pc' := 68) (ls' := [some (.ref 53), some (.int (nI r')), some (.int (nI k)), some (.int (nI j))]) (sk' := [.int (st.1 53 38), .ref 85]) (st' := ((mU (mU st.1 83 a (nI r')) 84 a (nI k)), st.2)) (fun _ h => h) ?_
          rw [hP.1]
          refine w_blk 1 (pc' := 69) (ls' := [some (.ref 53), some (.int (nI r')), some (.int (nI k)), some (.int (nI j))]) (sk' := [.int (nI j), .int (nI a), .ref 85]) (st' := ((mU (mU st.1 83 a (nI r')) 84 a (nI k)), st.2)) (fun _ h => h) ?_
          refine w_iast rfl rfl (vp_in_nI (n := a) (N := 30) (by omega) (by decide)) ?_
          rw [nI_clamp (show a < 2 ^ 31 by omega)]
          refine w_blk 3 (pc' := 75) (ls' := [some (.ref 53), some (.int (nI r')), some (.int (nI k)), some (.int (nI j))]) (sk' := [.int (st.1 53 38), .ref 53]) (st' := ((mU (mU (mU st.1 83 a (nI r')) 84 a (nI k)) 85 a (nI j)), st.2)) (fun _ h => h) ?_
          rw [hP.1]
          refine w_blk 2 (pc' := 77) (ls' := [some (.ref 53), some (.int (nI r')), some (.int (nI k)), some (.int (nI j))]) (sk' := [.int ((nI a) + 1), .ref 53]) (st' := ((mU (mU (mU st.1 83 a (nI r')) 84 a (nI k)) 85 a (nI j)), st.2)) (fun _ h => h) ?_
          rw [show ((nI a) + 1) = nI (a + 1) from nI_add a 1]
          refine w_blk 3 (pc' := 84) (ls' := [some (.ref 53), some (.int (nI r')), some (.int (nI k)), some (.int (nI j))]) (sk' := [.int (nI (a + 1))]) (st' := ((mU (mU (mU (mU st.1 83 a (nI r')) 84 a (nI k)) 85 a (nI j)) 53 38 (nI (a + 1))), st.2)) (fun _ h => h) ?_
          have ha30 : a < 30 := by omega
          exact w_iret rfl rfl rfl (by have hh := hq ((mU (mU (mU (mU st.1 83 a (nI r')) 84 a (nI k)) 85 a (nI j)) 53 38 (nI (a + 1))), st.2); rw [show sp_tell n a (nI r') (nI k) (nI j) = nI (a + 1) from (if_pos hok).trans (if_pos ha30), show tl_a n a (nI r') (nI k) (nI j) = a + 1 from if_pos ⟨hok, ha30⟩, ec1, ec2, ec3] at hh; exact hh ⟨MT_add hP r' k j, (Fr.trans (Fr.trans (Fr.trans (Fr.trans (Fr.rf : Fr [53, 83, 84, 85] st st) (Fr.mU (by decide))) (Fr.mU (by decide))) (Fr.mU (by decide))) (Fr.mU (by decide))), (Fk.trans (Fk.trans (Fk.trans (Fk.trans (Fk.rf : Fk 53 [38] st st) (Fk.wn (by decide))) (Fk.wn (by decide))) (Fk.wn (by decide))) (Fk.wr (by decide)))⟩)
        · replace h4 : a = 30 := (nI_eq (a := a) (b := 30) (by omega) (by omega)).mp (Decidable.not_not.mp h4)
          have ec1 := nI_clamp (show r' < 2 ^ 31 by omega)
          have ec2 := nI_clamp (show k < 2 ^ 31 by omega)
          have ec3 := nI_clamp (show j < 2 ^ 31 by omega)
          refine w_blk 1 (pc' := 39) (ls' := [some (.ref 53), some (.int (nI r')), some (.int (nI k)), some (.int (nI j))]) (sk' := [.int (-3)]) (st' := st) (fun _ h => h) ?_
          exact w_iret rfl rfl rfl (by have hh := hq st; rw [show sp_tell n a (nI r') (nI k) (nI j) = -3 from (if_pos hok).trans (if_neg (by omega)), show tl_a n a (nI r') (nI k) (nI j) = a from if_neg (fun e => by have := e.2; omega)] at hh; exact hh ⟨MT_no hP _ _ _, Fr.rf, Fk.rf⟩)
      · replace h3 := pI_eq0.mp (Decidable.not_not.mp h3)
        refine w_blk 1 (pc' := 27) (ls' := [some (.ref 53), some (.int r), some (.int x), some (.int y)]) (sk' := [.int (-1)]) (st' := st) (fun _ h => h) ?_
        have hno : ¬ okT n r x y := fun hh => by first | exact h1 hh.1 | exact h2 hh.2.1 | exact h3 hh.2.2
        exact w_iret rfl rfl rfl (by have hh := hq st; rw [show sp_tell n a r x y = -1 from if_neg hno, show tl_a n a r x y = a from if_neg (fun e => hno e.1)] at hh; exact hh ⟨MT_no hP _ _ _, Fr.rf, Fk.rf⟩)
set_option maxRecDepth 20000 in
/-- dry -/
theorem m_dry (d : Nat) (a : Nat) (T C U : Nat → Nat) (st : mSt) (hP : MH st a T C U) : ∃ (s : mSt), mMC mT (d + 1) 180 [.ref 53] st (some (.int (nI a))) s ∧ MH s 0 T C U ∧ Fr [53, 79, 80, 81] st s ∧ Fk 53 [33] st s := by
  suffices H : ∀ Q : Option Value → mSt → Prop, (∀ (s : mSt), (MH s 0 T C U ∧ Fr [53, 79, 80, 81] st s ∧ Fk 53 [33] st s) → Q (some (.int (nI a))) s) → mW (mMC mT (d + 0)) (0, fun _ => 0) (mAtL P_X10_dry) (some .int) Q 0 [some (.ref 53), none] [] st by
    obtain ⟨_, _, ⟨s, rfl, rfl, hp⟩, hw⟩ := mW_ex (H (fun vv tt => ∃ (s : mSt),  vv = some (.int (nI a)) ∧ s = tt ∧ MH s 0 T C U ∧ Fr [53, 79, 80, 81] st s ∧ Fk 53 [33] st s) (fun s hp => ⟨s, rfl, rfl, hp⟩))
    exact ⟨s, mI_X10_dry (d := d + 0) (Nat.le_of_ble_eq_true rfl) hw, hp⟩
  intro Q hq
  refine w_blk 2 (pc' := 4) (ls' := [some (.ref 53), none]) (sk' := [.int (st.1 53 33)]) (st' := st) (fun _ h => h) ?_
  rw [hP.1]
  refine w_blk 5 (pc' := 11) (ls' := [some (.ref 53), some (.int (nI a))]) (sk' := [.int (nI a)]) (st' := ((mU st.1 53 33 0), st.2)) (fun _ h => h) ?_
  exact w_iret rfl rfl rfl (hq _ ⟨⟨rfl, fun k hk => absurd hk (by omega)⟩, Fr.trans Fr.rf (Fr.mU (by decide)), Fk.wr (by decide)⟩)
