/-! HOW IT BEGINS: the model -/
theorem MEd_clr {st : mSt} {E : EdT} {ρ : Nat → Nat} {k : Nat} (h : MEd st (Em E ρ k)) (hρ : ρ k < 8) : MEd (mU st.1 67 (8 * k + ρ k) 0, st.2) (Em E ρ (k + 1)) := by
  intro j hj
  show mU st.1 67 (8 * k + ρ k) 0 67 j = _
  by_cases e : j = 8 * k + ρ k
  · subst e
    rw [show (8 * k + ρ k) / 8 = k by omega, show (8 * k + ρ k) % 8 = ρ k by omega]
    exact mU_at.trans (pI_f (fun hh => (Em_iff.mp hh).2 ⟨by omega, rfl⟩)).symm
  · refine (mU_row e).trans ((h j hj).trans (pI_cong ?_))
    rw [Em_iff, Em_iff]
    constructor
    · rintro ⟨h1, h2⟩
      exact ⟨h1, fun h3 => h2 ⟨by
        by_cases e9 : j / 8 = k
        · rw [e9] at h3
          exact absurd (show j = 8 * k + ρ k by omega) e
        · omega, h3.2⟩⟩
    · rintro ⟨h1, h2⟩
      exact ⟨h1, fun h3 => h2 ⟨by omega, h3.2⟩⟩
/-- the edges with some of a round given back -/
def Eg (E : EdT) (ρ : Nat → Nat) (nd k : Nat) : EdT := fun d s => E d s && !(decide (k ≤ d ∧ d < nd) && decide (s = ρ d))
theorem Eg_iff {E : EdT} {ρ : Nat → Nat} {nd k d s : Nat} : Eg E ρ nd k d s = true ↔ E d s = true ∧ ¬ ((k ≤ d ∧ d < nd) ∧ s = ρ d) := by
  unfold Eg
  by_cases h1 : k ≤ d ∧ d < nd <;> by_cases h2 : s = ρ d <;> simp [h1, h2]
theorem MEd_set {st : mSt} {E : EdT} {ρ : Nat → Nat} {nd k : Nat} (h : MEd st (Eg E ρ nd k)) (hρ : ρ k < 8) (hE : E k (ρ k) = true) : MEd (mU st.1 67 (8 * k + ρ k) 1, st.2) (Eg E ρ nd (k + 1)) := by
  intro j hj
  show mU st.1 67 (8 * k + ρ k) 1 67 j = _
  by_cases e : j = 8 * k + ρ k
  · subst e
    rw [show (8 * k + ρ k) / 8 = k by omega, show (8 * k + ρ k) % 8 = ρ k by omega]
    exact mU_at.trans (pI_t (Eg_iff.mpr ⟨hE, fun hh => by omega⟩)).symm
  · refine (mU_row e).trans ((h j hj).trans (pI_cong ?_))
    rw [Eg_iff, Eg_iff]
    constructor
    · rintro ⟨h1, h2⟩
      exact ⟨h1, fun h3 => h2 ⟨⟨by omega, h3.1.2⟩, h3.2⟩⟩
    · rintro ⟨h1, h2⟩
      exact ⟨h1, fun h3 => h2 ⟨⟨by
        by_cases e9 : j / 8 = k
        · rw [e9] at h3
          exact absurd (show j = 8 * k + ρ k by omega) e
        · omega, h3.1.2⟩, h3.2⟩⟩
theorem MEd_iff {st : mSt} {E E' : EdT} (h : ∀ d s, d < 6 → s < 8 → (E d s = true ↔ E' d s = true)) (hE : MEd st E) : MEd st E' := fun k hk => (hE k hk).trans (pI_cong (h _ _ (by omega) (by omega)))
set_option maxRecDepth 20000 in
/-- isUsed(d) -/
theorem m_isUsed (d : Nat) (ρ : Nat → Nat) (d0 : Nat) (st : mSt) (hd : d0 < 6) (hr : ∀ k, k ≤ d0 → st.1 75 k = nI (ρ k)) (h8 : ∀ k, k ≤ d0 → ρ k ≤ 8) : mMC mT (d + 1) 163 [.ref 53, .int (nI d0)] st (some (.int (pI (hasB (fun k => decide (ρ k = ρ d0)) d0 = true)))) st := by
  refine mI_X10_isUsed (d := d + 0) (Nat.le_of_ble_eq_true rfl) (fun Q hq => ?_)
  show mW (mMC mT (d + 0)) (0, fun _ => 0) (mAtL P_X10_isUsed) (some .boolean) Q 0 [some (.ref 53), some (.int (nI d0)), none, none] [] st
  refine w_blk 4 (pc' := 4) (ls' := [some (.ref 53), some (.int (nI d0)), some (.int 0), some (.int 0)]) (sk' := []) (st' := st) (fun _ h => h) ?_
  have key : ∀ (m k : Nat), k + m = d0 → mW (mMC mT (d + 0)) (0, fun _ => 0) (mAtL P_X10_isUsed) (some .boolean) Q 4 [some (.ref 53), some (.int (nI d0)), some (.int (pI (hasB (fun k => decide (ρ k = ρ d0)) k = true))), some (.int (nI k))] [] st := by
    intro m
    induction m with
    | zero =>
      intro k hk
      obtain rfl : d0 = k := by omega
      refine w_blk 2 (pc' := 6) (ls' := [some (.ref 53), some (.int (nI d0)), some (.int (pI (hasB (fun k => decide (ρ k = ρ d0)) d0 = true))), some (.int (nI d0))]) (sk' := [.int (nI d0), .int (nI d0)]) (st' := st) (fun _ h => h) ?_
      refine w_cmp_ge rfl (fun _ => ?_) (fun hno => absurd (Int32.le_refl _) hno)
      refine w_blk 1 (pc' := 41) (ls' := [some (.ref 53), some (.int (nI d0)), some (.int (pI (hasB (fun k => decide (ρ k = ρ d0)) d0 = true))), some (.int (nI d0))]) (sk' := [.int (pI (hasB (fun k => decide (ρ k = ρ d0)) d0 = true))]) (st' := st) (fun _ h => h) ?_
      exact w_iret rfl rfl (nar_pI _) hq
    | succ m ih =>
      intro k hk
      have hk2 : k < d0 := by omega
      have h8k := h8 k (by omega)
      have h8d := h8 d0 (by omega)
      refine w_blk 2 (pc' := 6) (ls' := [some (.ref 53), some (.int (nI d0)), some (.int (pI (hasB (fun k => decide (ρ k = ρ d0)) k = true))), some (.int (nI k))]) (sk' := [.int (nI d0), .int (nI k)]) (st' := st) (fun _ h => h) ?_
      refine w_cmp_ge rfl (fun hno => absurd hno (nI_ge hk2 (by omega))) (fun _ => ?_)
      refine w_blk 1 (pc' := 10) (ls' := [some (.ref 53), some (.int (nI d0)), some (.int (pI (hasB (fun k => decide (ρ k = ρ d0)) k = true))), some (.int (nI k))]) (sk' := [.int (pI (hasB (fun k => decide (ρ k = ρ d0)) k = true))]) (st' := st) (fun _ h => h) ?_
      refine w_if_ne rfl (fun h1 => ?_) (fun h1 => ?_)
      · replace h1 := pI_ne.mp h1
        refine w_blk 4 (pc' := 37) (ls' := [some (.ref 53), some (.int (nI d0)), some (.int 1), some (.int ((nI k) + 1))]) (sk' := []) (st' := st) (fun _ h => h) ?_
        rw [show ((nI k) + 1) = nI (k + 1) from nI_add k 1]
        refine w_blk 1 (pc' := 4) (ls' := [some (.ref 53), some (.int (nI d0)), some (.int 1), some (.int (nI (k + 1)))]) (sk' := []) (st' := st) (fun _ h => h) ?_
        exact (by have hh := ih (k + 1) (by omega); rw [show pI (hasB (fun k => decide (ρ k = ρ d0)) (k + 1) = true) = 1 from (pI_cong (show ((hasB (fun k => decide (ρ k = ρ d0)) k || decide (ρ k = ρ d0)) = true) ↔ (hasB (fun k => decide (ρ k = ρ d0)) k = true ∨ ρ k = ρ d0) from by rw [Bool.or_eq_true, decide_eq_true_iff])).trans (pI_t (by first | exact Or.inl h1 | exact Or.inr h2))] at hh; exact hh)
      · replace h1 := pI_eq0.mp (Decidable.not_not.mp h1)
        refine w_blk 3 (pc' := 18) (ls' := [some (.ref 53), some (.int (nI d0)), some (.int (pI (hasB (fun k => decide (ρ k = ρ d0)) k = true))), some (.int (nI k))]) (sk' := [.int (nI k), .ref 75]) (st' := st) (fun _ h => h) ?_
        refine w_iald rfl rfl (vp_in_nI (n := k) (N := 6) (by omega) (by decide)) ?_
        rw [nI_clamp (show k < 2 ^ 31 by omega)]
        rw [hr k (by omega)]
        refine w_blk 3 (pc' := 24) (ls' := [some (.ref 53), some (.int (nI d0)), some (.int (pI (hasB (fun k => decide (ρ k = ρ d0)) k = true))), some (.int (nI k))]) (sk' := [.int (nI d0), .ref 75, .int (nI (ρ k))]) (st' := st) (fun _ h => h) ?_
        refine w_iald rfl rfl (vp_in_nI (n := d0) (N := 6) (by omega) (by decide)) ?_
        rw [nI_clamp (show d0 < 2 ^ 31 by omega)]
        rw [hr d0 (by omega)]
        refine w_cmp_ne rfl (fun h2 => ?_) (fun h2 => ?_)
        · replace h2 : ¬ (ρ k = ρ d0) := fun hh => h2 ((nI_eq (a := (ρ k)) (b := (ρ d0)) (by omega) (by omega)).mpr hh)
          refine w_blk 3 (pc' := 37) (ls' := [some (.ref 53), some (.int (nI d0)), some (.int 0), some (.int ((nI k) + 1))]) (sk' := []) (st' := st) (fun _ h => h) ?_
          rw [show ((nI k) + 1) = nI (k + 1) from nI_add k 1]
          refine w_blk 1 (pc' := 4) (ls' := [some (.ref 53), some (.int (nI d0)), some (.int 0), some (.int (nI (k + 1)))]) (sk' := []) (st' := st) (fun _ h => h) ?_
          exact (by have hh := ih (k + 1) (by omega); rw [show pI (hasB (fun k => decide (ρ k = ρ d0)) (k + 1) = true) = 0 from (pI_cong (show ((hasB (fun k => decide (ρ k = ρ d0)) k || decide (ρ k = ρ d0)) = true) ↔ (hasB (fun k => decide (ρ k = ρ d0)) k = true ∨ ρ k = ρ d0) from by rw [Bool.or_eq_true, decide_eq_true_iff])).trans (pI_f (fun h9 => h9.elim h1 h2))] at hh; exact hh)
        · replace h2 : ρ k = ρ d0 := (nI_eq (a := (ρ k)) (b := (ρ d0)) (by omega) (by omega)).mp (Decidable.not_not.mp h2)
          refine w_blk 4 (pc' := 37) (ls' := [some (.ref 53), some (.int (nI d0)), some (.int 1), some (.int ((nI k) + 1))]) (sk' := []) (st' := st) (fun _ h => h) ?_
          rw [show ((nI k) + 1) = nI (k + 1) from nI_add k 1]
          refine w_blk 1 (pc' := 4) (ls' := [some (.ref 53), some (.int (nI d0)), some (.int 1), some (.int (nI (k + 1)))]) (sk' := []) (st' := st) (fun _ h => h) ?_
          exact (by have hh := ih (k + 1) (by omega); rw [show pI (hasB (fun k => decide (ρ k = ρ d0)) (k + 1) = true) = 1 from (pI_cong (show ((hasB (fun k => decide (ρ k = ρ d0)) k || decide (ρ k = ρ d0)) = true) ↔ (hasB (fun k => decide (ρ k = ρ d0)) k = true ∨ ρ k = ρ d0) from by rw [Bool.or_eq_true, decide_eq_true_iff])).trans (pI_t (by first | exact Or.inl h1 | exact Or.inr h2))] at hh; exact hh)
  exact key (d0 - 0) 0 (by omega)
set_option maxRecDepth 20000 in
/-- leaves(r) -/
theorem m_leaves (d : Nat) (n : Nat → Nat) (c : Nat → Nat → Nat) (E : EdT) (ρ : Nat → Nat) (r : Nat) (st : mSt) (hR : MR st n c) (hB : CB n c) (hE : MEd st E) (hEn : ∀ d s, d < 6 → s < 8 → E d s = true → d < n 0 ∧ s < n 1) (hr : r ≤ 8) (hro : ∀ d, d < n 0 → st.1 75 d = nI (ρ d)) (hok : ∀ d, d < n 0 → ρ d < 8 ∧ E d (ρ d) = true) : ∃ (s : mSt), mMC mT (d + 5) 164 [.ref 53, .int (nI r)] st (some (.int (pI (r = 0 ∨ hallB (Em E ρ (n 0)) r (n 0) = true)))) s ∧ MEd s E ∧ Fr [67, 68, 69, 70, 71, 72, 73, 74] st s := by
  suffices H : ∀ Q : Option Value → mSt → Prop, (∀ (s : mSt), (MEd s E ∧ Fr [67, 68, 69, 70, 71, 72, 73, 74] st s) → Q (some (.int (pI (r = 0 ∨ hallB (Em E ρ (n 0)) r (n 0) = true)))) s) → mW (mMC mT (d + 4)) (0, fun _ => 0) (mAtL P_X10_leaves) (some .boolean) Q 0 [some (.ref 53), some (.int (nI r)), none, none] [] st by
    obtain ⟨_, _, ⟨s, rfl, rfl, hp⟩, hw⟩ := mW_ex (H (fun vv tt => ∃ (s : mSt),  vv = some (.int (pI (r = 0 ∨ hallB (Em E ρ (n 0)) r (n 0) = true))) ∧ s = tt ∧ MEd s E ∧ Fr [67, 68, 69, 70, 71, 72, 73, 74] st s) (fun s hp => ⟨s, rfl, rfl, hp⟩))
    exact ⟨s, mI_X10_leaves (d := d + 4) (Nat.le_of_ble_eq_true rfl) hw, hp⟩
  intro Q hq
  obtain ⟨hb0, hb1, hb2, hbd, hbs, hby⟩ := id hB
  have back : ∀ (z : Int32), z = pI (r = 0 ∨ hallB (Em E ρ (n 0)) r (n 0) = true) → ∀ (m k : Nat) (s0 : mSt), k + m = n 0 → MEd s0 (Eg E ρ (n 0) k) → Fr [67, 68, 69, 70, 71, 72, 73, 74] st s0 → mW (mMC mT (d + 4)) (0, fun _ => 0) (mAtL P_X10_leaves) (some .boolean) Q 55 [some (.ref 53), some (.int (nI r)), some (.int z), some (.int (nI k))] [] s0 := by
    intro z hz m
    induction m with
    | zero =>
      intro k s0 hk hE0 hf
      have hR1 : MR s0 n c := MR_fr hf (by decide) hR
      have hro1 : ∀ d, d < n 0 → s0.1 75 d = nI (ρ d) := fun d hd => by rw [hf.1 75 (by decide)]; exact hro d hd
      obtain rfl : n 0 = k := by omega
      refine w_blk 4 (pc' := 61) (ls' := [some (.ref 53), some (.int (nI r)), some (.int z), some (.int (nI (n 0)))]) (sk' := [.int 0, .ref 55, .int (nI (n 0))]) (st' := s0) (fun _ h => h) ?_
      refine w_iald rfl rfl (vp_in_nI (n := 0) (N := 2) (by decide) (by decide)) ?_
      rw [show Int32.toNatClampNeg (0 : Int32) = 0 from rfl]
      rw [hR1.1]
      refine w_cmp_ge rfl (fun _ => ?_) (fun hno => absurd (Int32.le_refl _) hno)
      refine w_blk 1 (pc' := 89) (ls' := [some (.ref 53), some (.int (nI r)), some (.int z), some (.int (nI (n 0)))]) (sk' := [.int z]) (st' := s0) (fun _ h => h) ?_
      subst hz
      exact w_iret rfl rfl (nar_pI _) (hq s0 ⟨MEd_iff (fun d s hd hs => Eg_iff.trans ⟨fun hh => hh.1, fun hh => ⟨hh, fun h9 => by omega⟩⟩) hE0, hf⟩)
    | succ m ih =>
      intro k s0 hk hE0 hf
      have hR1 : MR s0 n c := MR_fr hf (by decide) hR
      have hro1 : ∀ d, d < n 0 → s0.1 75 d = nI (ρ d) := fun d hd => by rw [hf.1 75 (by decide)]; exact hro d hd
      have hk2 : k < n 0 := by omega
      have hv := hok k hk2
      refine w_blk 4 (pc' := 61) (ls' := [some (.ref 53), some (.int (nI r)), some (.int z), some (.int (nI k))]) (sk' := [.int 0, .ref 55, .int (nI k)]) (st' := s0) (fun _ h => h) ?_
      refine w_iald rfl rfl (vp_in_nI (n := 0) (N := 2) (by decide) (by decide)) ?_
      rw [show Int32.toNatClampNeg (0 : Int32) = 0 from rfl]
      rw [hR1.1]
      refine w_cmp_ge rfl (fun hno => absurd hno (nI_ge hk2 (by omega))) (fun _ => ?_)
      refine w_blk 5 (pc' := 73) (ls' := [some (.ref 53), some (.int (nI r)), some (.int z), some (.int (nI k))]) (sk' := [.int (8 * (nI k)), .ref 67]) (st' := s0) (fun _ h => h) ?_
      rw [show (8 * (nI k)) = nI (8 * k) from pk_mul 8 k]
      refine w_blk 3 (pc' := 78) (ls' := [some (.ref 53), some (.int (nI r)), some (.int z), some (.int (nI k))]) (sk' := [.int (nI k), .ref 75, .int (nI (8 * k)), .ref 67]) (st' := s0) (fun _ h => h) ?_
      refine w_iald rfl rfl (vp_in_nI (n := k) (N := 6) (by omega) (by decide)) ?_
      rw [nI_clamp (show k < 2 ^ 31 by omega)]
      rw [hro1 k (by omega)]
      refine w_blk 1 (pc' := 80) (ls' := [some (.ref 53), some (.int (nI r)), some (.int z), some (.int (nI k))]) (sk' := [.int ((nI (8 * k)) + (nI (ρ k))), .ref 67]) (st' := s0) (fun _ h => h) ?_
      rw [show ((nI (8 * k)) + (nI (ρ k))) = nI ((8 * k) + (ρ k)) from nI_add (8 * k) (ρ k)]
      refine w_blk 1 (pc' := 81) (ls' := [some (.ref 53), some (.int (nI r)), some (.int z), some (.int (nI k))]) (sk' := [.int 1, .int (nI ((8 * k) + (ρ k))), .ref 67]) (st' := s0) (fun _ h => h) ?_
      refine w_bast2 rfl rfl (vp_in_nI (n := ((8 * k) + (ρ k))) (N := 48) (by omega) (by decide)) (Or.inr rfl) ?_
      rw [nI_clamp (show ((8 * k) + (ρ k)) < 2 ^ 31 by omega)]
      refine w_blk 1 (pc' := 85) (ls' := [some (.ref 53), some (.int (nI r)), some (.int z), some (.int ((nI k) + 1))]) (sk' := []) (st' := ((mU s0.1 67 ((8 * k) + (ρ k)) 1), s0.2)) (fun _ h => h) ?_
      rw [show ((nI k) + 1) = nI (k + 1) from nI_add k 1]
      refine w_blk 1 (pc' := 55) (ls' := [some (.ref 53), some (.int (nI r)), some (.int z), some (.int (nI (k + 1)))]) (sk' := []) (st' := ((mU s0.1 67 ((8 * k) + (ρ k)) 1), s0.2)) (fun _ h => h) ?_
      exact ih (k + 1) ((mU s0.1 67 ((8 * k) + (ρ k)) 1), s0.2) (by omega) (MEd_set hE0 hv.1 hv.2) (Fr.trans hf (Fr.mU (by decide)))
  refine w_blk 2 (pc' := 2) (ls' := [some (.ref 53), some (.int (nI r)), some (.int 0), none]) (sk' := []) (st' := st) (fun _ h => h) ?_
  suffices take : ∀ (m k : Nat) (s0 : mSt), k + m = n 0 → MEd s0 (Em E ρ k) → Fr [67, 68, 69, 70, 71, 72, 73, 74] st s0 → mW (mMC mT (d + 4)) (0, fun _ => 0) (mAtL P_X10_leaves) (some .boolean) Q 2 [some (.ref 53), some (.int (nI r)), some (.int (nI k)), none] [] s0 from take (n 0) 0 st (by omega) (MEd_iff (fun d s hd hs => (Iff.trans Em_iff ⟨fun hh => hh.1, fun hh => ⟨hh, fun h9 => absurd h9.1 (Nat.not_lt_zero _)⟩⟩).symm) hE) Fr.rf
  intro m
  induction m with
  | zero =>
    intro k s0 hk hE0 hf
    have hR1 : MR s0 n c := MR_fr hf (by decide) hR
    have hro1 : ∀ d, d < n 0 → s0.1 75 d = nI (ρ d) := fun d hd => by rw [hf.1 75 (by decide)]; exact hro d hd
    obtain rfl : n 0 = k := by omega
    refine w_blk 4 (pc' := 8) (ls' := [some (.ref 53), some (.int (nI r)), some (.int (nI (n 0))), none]) (sk' := [.int 0, .ref 55, .int (nI (n 0))]) (st' := s0) (fun _ h => h) ?_
    refine w_iald rfl rfl (vp_in_nI (n := 0) (N := 2) (by decide) (by decide)) ?_
    rw [show Int32.toNatClampNeg (0 : Int32) = 0 from rfl]
    rw [hR1.1]
    refine w_cmp_ge rfl (fun _ => ?_) (fun hno => absurd (Int32.le_refl _) hno)
    refine w_blk 1 (pc' := 36) (ls' := [some (.ref 53), some (.int (nI r)), some (.int (nI (n 0))), none]) (sk' := [.int (nI r)]) (st' := s0) (fun _ h => h) ?_
    have hEg : ∀ s9, MEd s9 (Em E ρ (n 0)) → MEd s9 (Eg E ρ (n 0) 0) := fun s9 h9 => MEd_iff (fun d s hd hs => (Iff.trans Em_iff (Iff.trans ⟨fun hh => ⟨hh.1, fun h8 => hh.2 ⟨h8.1.2, h8.2⟩⟩, fun hh => ⟨hh.1, fun h8 => hh.2 ⟨⟨Nat.zero_le _, h8.1⟩, h8.2⟩⟩⟩ Eg_iff.symm))) h9
    refine w_if_eq rfl (fun h1 => ?_) (fun h1 => ?_)
    · replace h1 : r = 0 := (nI_eq (a := r) (b := 0) (by omega) (by omega)).mp h1
      refine w_blk 5 (pc' := 55) (ls' := [some (.ref 53), some (.int (nI r)), some (.int 1), some (.int 0)]) (sk' := []) (st' := s0) (fun _ h => h) ?_
      exact back 1 (pI_t (Or.inl h1)).symm (n 0) 0 s0 (by omega) (hEg _ hE0) hf
    · replace h1 : ¬ (r = 0) := fun hh => h1 ((nI_eq (a := r) (b := 0) (by omega) (by omega)).mpr hh)
      refine w_blk 2 (pc' := 41) (ls' := [some (.ref 53), some (.int (nI r)), some (.int (nI (n 0))), none]) (sk' := [.int (nI r), .ref 53]) (st' := s0) (fun _ h => h) ?_
      obtain ⟨s1, hc1, hf1⟩ := m_isLong (d + 0) n c (Em E ρ (n 0)) r s0 hR1 hB hE0 (fun d s hd hs h9 => hEn d s hd hs (Em_iff.mp h9).1) hr
      have hf2 : Fr [67, 68, 69, 70, 71, 72, 73, 74] st s1 := Fr.trans hf (Fr.mono hf1 (by decide))
      have hE1 : MEd s1 (Em E ρ (n 0)) := MEd_e (hf1.1 67 (by decide)) hE0
      refine w_callV (As := [.ref 53, .int (nI r)]) (rest := []) rfl rfl rfl (Nat.le_of_ble_eq_true rfl) (Nat.le_of_ble_eq_true rfl) (by first | exact Or.inl ⟨rfl, rfl⟩ | exact Or.inr ⟨rfl, rfl⟩) hc1 ?_
      refine w_if_eq rfl (fun h2 => ?_) (fun h2 => ?_)
      · replace h2 := pI_eq0.mp h2
        refine w_blk 4 (pc' := 55) (ls' := [some (.ref 53), some (.int (nI r)), some (.int 0), some (.int 0)]) (sk' := []) (st' := s1) (fun _ h => h) ?_
        exact back 0 (pI_f (fun hh => hh.elim h1 h2)).symm (n 0) 0 s1 (by omega) (hEg _ hE1) hf2
      · replace h2 := pI_ne.mp h2
        refine w_blk 5 (pc' := 55) (ls' := [some (.ref 53), some (.int (nI r)), some (.int 1), some (.int 0)]) (sk' := []) (st' := s1) (fun _ h => h) ?_
        exact back 1 (pI_t (Or.inr h2)).symm (n 0) 0 s1 (by omega) (hEg _ hE1) hf2
  | succ m ih =>
    intro k s0 hk hE0 hf
    have hR1 : MR s0 n c := MR_fr hf (by decide) hR
    have hro1 : ∀ d, d < n 0 → s0.1 75 d = nI (ρ d) := fun d hd => by rw [hf.1 75 (by decide)]; exact hro d hd
    have hk2 : k < n 0 := by omega
    have hv := hok k hk2
    refine w_blk 4 (pc' := 8) (ls' := [some (.ref 53), some (.int (nI r)), some (.int (nI k)), none]) (sk' := [.int 0, .ref 55, .int (nI k)]) (st' := s0) (fun _ h => h) ?_
    refine w_iald rfl rfl (vp_in_nI (n := 0) (N := 2) (by decide) (by decide)) ?_
    rw [show Int32.toNatClampNeg (0 : Int32) = 0 from rfl]
    rw [hR1.1]
    refine w_cmp_ge rfl (fun hno => absurd hno (nI_ge hk2 (by omega))) (fun _ => ?_)
    refine w_blk 5 (pc' := 20) (ls' := [some (.ref 53), some (.int (nI r)), some (.int (nI k)), none]) (sk' := [.int (8 * (nI k)), .ref 67]) (st' := s0) (fun _ h => h) ?_
    rw [show (8 * (nI k)) = nI (8 * k) from pk_mul 8 k]
    refine w_blk 3 (pc' := 25) (ls' := [some (.ref 53), some (.int (nI r)), some (.int (nI k)), none]) (sk' := [.int (nI k), .ref 75, .int (nI (8 * k)), .ref 67]) (st' := s0) (fun _ h => h) ?_
    refine w_iald rfl rfl (vp_in_nI (n := k) (N := 6) (by omega) (by decide)) ?_
    rw [nI_clamp (show k < 2 ^ 31 by omega)]
    rw [hro1 k (by omega)]
    refine w_blk 1 (pc' := 27) (ls' := [some (.ref 53), some (.int (nI r)), some (.int (nI k)), none]) (sk' := [.int ((nI (8 * k)) + (nI (ρ k))), .ref 67]) (st' := s0) (fun _ h => h) ?_
    rw [show ((nI (8 * k)) + (nI (ρ k))) = nI ((8 * k) + (ρ k)) from nI_add (8 * k) (ρ k)]
    refine w_blk 1 (pc' := 28) (ls' := [some (.ref 53), some (.int (nI r)), some (.int (nI k)), none]) (sk' := [.int 0, .int (nI ((8 * k) + (ρ k))), .ref 67]) (st' := s0) (fun _ h => h) ?_
    refine w_bast2 rfl rfl (vp_in_nI (n := ((8 * k) + (ρ k))) (N := 48) (by omega) (by decide)) (Or.inl rfl) ?_
    rw [nI_clamp (show ((8 * k) + (ρ k)) < 2 ^ 31 by omega)]
    refine w_blk 1 (pc' := 32) (ls' := [some (.ref 53), some (.int (nI r)), some (.int ((nI k) + 1)), none]) (sk' := []) (st' := ((mU s0.1 67 ((8 * k) + (ρ k)) 0), s0.2)) (fun _ h => h) ?_
    rw [show ((nI k) + 1) = nI (k + 1) from nI_add k 1]
    refine w_blk 1 (pc' := 2) (ls' := [some (.ref 53), some (.int (nI r)), some (.int (nI (k + 1))), none]) (sk' := []) (st' := ((mU s0.1 67 ((8 * k) + (ρ k)) 0), s0.2)) (fun _ h => h) ?_
    exact ih (k + 1) ((mU s0.1 67 ((8 * k) + (ρ k)) 0), s0.2) (by omega) (MEd_clr hE0 hv.1) (Fr.trans hf (Fr.mU (by decide)))
def BGs (n : Nat → Nat) (E : EdT) (x r : Int32) : Prop := (¬ ok0 n x → r = -1) ∧ (ok0 n x → ∃ R, LGR (fun q => hallB E q (n 0)) (n 0) R ∧ (R = 0 → r = -9) ∧ (R ≠ 0 → ∃ ρ, FST E (n 0) R ρ ∧ r = nI (ρ x.toNatClampNeg)))
theorem BGs_un {n : Nat → Nat} {E : EdT} {x r r' : Int32} (hn : n 0 ≤ 6) (h : BGs n E x r) (h' : BGs n E x r') : r = r' := by
  by_cases hok : ok0 n x
  · obtain ⟨R, h1, h2, h3⟩ := h.2 hok
    obtain ⟨R', g1, g2, g3⟩ := h'.2 hok
    obtain rfl := LGR_un h1 g1
    by_cases h0 : R = 0
    · rw [h2 h0, g2 h0]
    · obtain ⟨ρ, a1, a2⟩ := h3 h0
      obtain ⟨ρ', b1, b2⟩ := g3 h0
      obtain ⟨k, hk, rfl⟩ := nI_in2 (by omega) hok
      rw [a2, b2, nI_clamp (show k < 2 ^ 31 by omega), FST_un a1 b1 k hk]
  · rw [h.1 hok, h'.1 hok]
theorem INB_cong {ρ a b : Nat → Nat} {d c : Nat} (h : ∀ k, k < d → a k = b k) (hi : INB ρ a d c) : INB ρ b d c := by
  rcases hi with ⟨h1, h2⟩ | ⟨e, he, h1, h2⟩
  · exact Or.inl ⟨fun k hk => (h k hk).symm.trans (h1 k hk), h2⟩
  · exact Or.inr ⟨e, he, fun k hk => (h k (by omega)).symm.trans (h1 k hk), by rw [← h e he]; exact h2⟩
set_option maxRecDepth 20000 in
/-- begins(d) -/
theorem m_begins (d : Nat) (n : Nat → Nat) (c : Nat → Nat → Nat) (v : Nat → Int32) (u : Nat → Nat) (x : Int32) (st : mSt) (hR : MR st n c) (hM : NM0 st v u) (hB : CB n c) (hU : ∀ j, 3 ≤ j → j < 12 → u j < 256) : ∃ (r : Int32) (s : mSt), mMC mT (d + 6) 165 [.ref 53, .int x] st (some (.int r)) s ∧ BGs n (EN n c u) x r ∧ Fr [67, 68, 69, 70, 71, 72, 73, 74, 75] st s := by
  suffices H : ∀ Q : Option Value → mSt → Prop, (∀ (r : Int32) (s : mSt), (BGs n (EN n c u) x r ∧ Fr [67, 68, 69, 70, 71, 72, 73, 74, 75] st s) → Q (some (.int r)) s) → mW (mMC mT (d + 5)) (0, fun _ => 0) (mAtL P_X10_begins) (some .int) Q 0 [some (.ref 53), some (.int x), none, none] [] st by
    obtain ⟨_, _, ⟨r, s, rfl, rfl, hp⟩, hw⟩ := mW_ex (H (fun vv tt => ∃ (r : Int32) (s : mSt),  vv = some (.int r) ∧ s = tt ∧ BGs n (EN n c u) x r ∧ Fr [67, 68, 69, 70, 71, 72, 73, 74, 75] st s) (fun r s hp => ⟨r, s, rfl, rfl, hp⟩))
    exact ⟨r, s, mI_X10_begins (d := d + 5) (Nat.le_of_ble_eq_true rfl) hw, hp⟩
  intro Q hq
  obtain ⟨hb0, hb1, hb2, hbd, hbs, hby⟩ := id hB
  refine w_blk 2 (pc' := 2) (ls' := [some (.ref 53), some (.int x), none, none]) (sk' := [.int x, .ref 53]) (st' := st) (fun _ h => h) ?_
  refine w_callV (As := [.ref 53, .int x]) (rest := []) rfl rfl rfl (Nat.le_of_ble_eq_true rfl) (Nat.le_of_ble_eq_true rfl) (by first | exact Or.inl ⟨rfl, rfl⟩ | exact Or.inr ⟨rfl, rfl⟩) (m_isDigger (d + 3) n c x st hR hB) ?_
  refine w_if_ne rfl (fun h1 => ?_) (fun h1 => ?_)
  · replace h1 := pI_ne.mp h1
    obtain ⟨dg, hdg, rfl⟩ := nI_in2 (by omega) h1
    have ec := nI_clamp (show dg < 2 ^ 31 by omega)
    refine w_blk 1 (pc' := 11) (ls' := [some (.ref 53), some (.int (nI dg)), none, none]) (sk' := [.ref 53]) (st' := st) (fun _ h => h) ?_
    obtain ⟨s1, hc1, hE1, hf1⟩ := m_findEdges (d + 3) n c v u st hR hM hB hU
    obtain ⟨E, hEe⟩ : ∃ E, E = EN n c u := ⟨_, rfl⟩
    have hEn : ∀ d s, d < 6 → s < 8 → E d s = true → d < n 0 ∧ s < n 1 := fun d s _ _ h => EN_in (by rw [hEe] at h; exact h)
    rw [← hEe] at hE1 hq
    have hR1 : MR s1 n c := MR_fr hf1 (by decide) hR
    obtain ⟨R, s2, hc2, hlg, hf2⟩ := m_longestBy (d + 0) n c E s1 hR1 hB hE1 hEn
    have hf12 : Fr [67, 68, 69, 70, 71, 72, 73, 74, 75] st s2 := Fr.trans (Fr.mono hf1 (by decide)) (Fr.mono hf2 (by decide))
    have hE2 : MEd s2 E := MEd_e (hf2.1 67 (by decide)) hE1
    have hR8 := hlg.1
    refine w_callV (As := [.ref 53]) (rest := []) rfl rfl rfl (Nat.le_of_ble_eq_true rfl) (Nat.le_of_ble_eq_true rfl) (by first | exact Or.inl ⟨rfl, rfl⟩ | exact Or.inr ⟨rfl, rfl⟩) hc1 ?_
    refine w_blk 1 (pc' := 15) (ls' := [some (.ref 53), some (.int (nI dg)), none, none]) (sk' := [.ref 53]) (st' := s1) (fun _ h => h) ?_
    refine w_callV (As := [.ref 53]) (rest := []) rfl rfl rfl (Nat.le_of_ble_eq_true rfl) (Nat.le_of_ble_eq_true rfl) (by first | exact Or.inl ⟨rfl, rfl⟩ | exact Or.inr ⟨rfl, rfl⟩) hc2 ?_
    refine w_blk 2 (pc' := 20) (ls' := [some (.ref 53), some (.int (nI dg)), some (.int (nI R)), none]) (sk' := [.int (nI R)]) (st' := s2) (fun _ h => h) ?_
    refine w_if_ne rfl (fun h2 => ?_) (fun h2 => ?_)
    · replace h2 : ¬ (R = 0) := fun hh => h2 ((nI_eq (a := R) (b := 0) (by omega) (by omega)).mpr hh)
      have hE9 : ∀ d s, d < 6 → s < 8 → E d s = true → d < n 0 := fun d s hd hs he => (hEn d s hd hs he).1
      obtain ⟨ρ, hF⟩ := FST_ex (OKR_ex (by omega) hb0 hE9 (hallB_iff.mp (hlg.2.1 R (by omega) (Nat.le_refl _))))
      have hρ1 : ∀ k, k < n 0 → ρ k < n 1 := fun k hk => (hEn k (ρ k) (by omega) (hF.1.1 k hk).1 (hF.1.1 k hk).2).2
      have key : ∀ (N d0 : Nat) (a : Nat → Nat) (s0 : mSt), 7 * (531441 - POS a d0) + (6 - d0) ≤ N → d0 < n 0 → (∀ k, k < d0 → a k < n 1 ∧ E k (a k) = true) → (∀ k e, k < d0 → e < k → a e ≠ a k) → a d0 ≤ 8 → INB ρ a d0 (a d0) → (∀ k, k < d0 → s0.1 75 k = nI (a k)) → Fr [67, 68, 69, 70, 71, 72, 73, 74, 75] st s0 → MEd s0 E → s0.1 75 d0 + 1 = nI (a d0) → mW (mMC mT (d + 5)) (0, fun _ => 0) (mAtL P_X10_begins) (some .int) Q 35 [some (.ref 53), some (.int (nI dg)), some (.int (nI R)), some (.int (nI d0))] [] s0 := by
        intro N
        induction N with
        | zero =>
          intro d0 a s0 hm hd0 hpre hdis ha8 hinb hro hf hEs hc9
          exact absurd hm (by omega)
        | succ N ih =>
          intro d0
          have inner : ∀ (m : Nat) (a : Nat → Nat) (s0 : mSt), 9 - a d0 ≤ m → 7 * (531441 - POS a d0) + (6 - d0) ≤ N + 1 → d0 < n 0 → (∀ k, k < d0 → a k < n 1 ∧ E k (a k) = true) → (∀ k e, k < d0 → e < k → a e ≠ a k) → a d0 ≤ 8 → INB ρ a d0 (a d0) → (∀ k, k < d0 → s0.1 75 k = nI (a k)) → Fr [67, 68, 69, 70, 71, 72, 73, 74, 75] st s0 → MEd s0 E → s0.1 75 d0 = nI (a d0) → mW (mMC mT (d + 5)) (0, fun _ => 0) (mAtL P_X10_begins) (some .int) Q 45 [some (.ref 53), some (.int (nI dg)), some (.int (nI R)), some (.int (nI d0))] [] s0 := by
            intro m
            induction m with
            | zero =>
              intro a s0 hm9 hm hd0 hpre hdis ha8 hinb hro hf hEs hc9
              exact absurd hm9 (by omega)
            | succ m ihm =>
              intro a s0 hm9 hm hd0 hpre hdis ha8 hinb hro hf hEs hc9
              have hR3 : MR s0 n c := MR_fr hf (by decide) hR
              have hro2 : ∀ k, k < d0 + 1 → s0.1 75 k = nI (a k) := fun k hk => if ek : k = d0 then (by rw [ek]; exact hc9) else hro k (by omega)
              have hall8 : ∀ k, k ≤ d0 → a k ≤ 8 := fun k hk => if ek : k = d0 then (by rw [ek]; exact ha8) else Nat.le_of_lt (Nat.lt_of_lt_of_le (hpre k (by omega)).1 hb1)
              have hpb := POS_bd (a := a) (d := d0) (by omega) hall8
              refine w_blk 3 (pc' := 50) (ls' := [some (.ref 53), some (.int (nI dg)), some (.int (nI R)), some (.int (nI d0))]) (sk' := [.int (nI d0), .ref 75]) (st' := s0) (fun _ h => h) ?_
              refine w_iald rfl rfl (vp_in_nI (n := d0) (N := 6) (by omega) (by decide)) ?_
              rw [nI_clamp (show d0 < 2 ^ 31 by omega)]
              rw [hro2 d0 (by omega)]
              refine w_blk 3 (pc' := 56) (ls' := [some (.ref 53), some (.int (nI dg)), some (.int (nI R)), some (.int (nI d0))]) (sk' := [.int 0, .ref 59, .int (nI (a d0))]) (st' := s0) (fun _ h => h) ?_
              refine w_iald rfl rfl (vp_in_nI (n := 0) (N := 2) (by decide) (by decide)) ?_
              rw [show Int32.toNatClampNeg (0 : Int32) = 0 from rfl]
              rw [hR3.2.1]
              refine w_cmp_ge rfl (fun h3 => ?_) (fun h3 => ?_)
              · replace h3 : n 1 ≤ a d0 := (nI_leI (a := (n 1)) (b := (a d0)) (by omega) (by omega)).mp h3
                refine w_blk 3 (pc' := 105) (ls' := [some (.ref 53), some (.int (nI dg)), some (.int (nI R)), some (.int (nI d0))]) (sk' := [.int (nI d0), .ref 75]) (st' := s0) (fun _ h => h) ?_
                refine w_iald rfl rfl (vp_in_nI (n := d0) (N := 6) (by omega) (by decide)) ?_
                rw [nI_clamp (show d0 < 2 ^ 31 by omega)]
                rw [hro2 d0 (by omega)]
                refine w_blk 3 (pc' := 111) (ls' := [some (.ref 53), some (.int (nI dg)), some (.int (nI R)), some (.int (nI d0))]) (sk' := [.int 0, .ref 59, .int (nI (a d0))]) (st' := s0) (fun _ h => h) ?_
                refine w_iald rfl rfl (vp_in_nI (n := 0) (N := 2) (by decide) (by decide)) ?_
                rw [show Int32.toNatClampNeg (0 : Int32) = 0 from rfl]
                rw [hR3.2.1]
                refine w_cmp_lt rfl (fun hno => absurd hno (fun hh => absurd ((nI_ltI (a := a d0) (b := n 1) (by omega) (by omega)).mp hh) (by omega))) (fun _ => ?_)
                rcases d0 with _ | d1
                · exfalso
                  rcases hinb with ⟨-, h9⟩ | ⟨e, he, -⟩
                  · have := hρ1 0 hd0
                    omega
                  · exact absurd he (Nat.not_lt_zero _)
                · refine w_iinc (y := ((nI (d1 + 1)) - 1)) (ls' := [some (.ref 53), some (.int (nI dg)), some (.int (nI R)), some (.int ((nI (d1 + 1)) - 1))]) rfl rfl rfl (i_m1 _) rfl ?_
                  rw [show nI (d1 + 1) - 1 = nI d1 from pk_sub (a := d1 + 1) (b := 1) (by omega)]
                  refine w_blk 1 (pc' := 35) (ls' := [some (.ref 53), some (.int (nI dg)), some (.int (nI R)), some (.int (nI d1))]) (sk' := []) (st' := s0) (fun _ h => h) ?_
                  have hbk := POS_back (a := a) (d := d1) (by omega) ha8
                  have hbkb := POS_bd (a := updN a d1 (a d1 + 1)) (d := d1) (by omega) (fun k hk => if ek : k = d1 then (by rw [ek, updN_s]; have := (hpre d1 (by omega)).1; omega) else (by rw [updN_n ek]; exact hall8 k (by omega)))
                  exact ih d1 (updN a d1 (a d1 + 1)) s0 (by omega) (by omega) (fun k hk => by rw [updN_n (by omega)]; exact hpre k (by omega)) (fun k e hk he => by rw [updN_n (by omega), updN_n (by omega)]; exact hdis k e (by omega) he) (by rw [updN_s]; have := (hpre d1 (by omega)).1; omega) (by rw [updN_s]; exact INB_cong (fun k hk => (updN_n (by omega)).symm) (INB_back hinb (fun _ h9 => by have := hρ1 (d1 + 1) hd0; omega))) (fun k hk => by rw [updN_n (by omega)]; exact hro k (by omega)) hf hEs (by rw [updN_s, hro d1 (by omega)]; exact nI_add _ _)
              · replace h3 : ¬ (n 1 ≤ a d0) := fun hh => h3 ((nI_leI (a := (n 1)) (b := (a d0)) (by omega) (by omega)).mpr hh)
                have e8 : (8 * d0 + a d0) / 8 = d0 := by omega
                have e8b : (8 * d0 + a d0) % 8 = a d0 := by omega
                refine w_blk 5 (pc' := 68) (ls' := [some (.ref 53), some (.int (nI dg)), some (.int (nI R)), some (.int (nI d0))]) (sk' := [.int (8 * (nI d0)), .ref 67]) (st' := s0) (fun _ h => h) ?_
                rw [show (8 * (nI d0)) = nI (8 * d0) from pk_mul 8 d0]
                refine w_blk 3 (pc' := 73) (ls' := [some (.ref 53), some (.int (nI dg)), some (.int (nI R)), some (.int (nI d0))]) (sk' := [.int (nI d0), .ref 75, .int (nI (8 * d0)), .ref 67]) (st' := s0) (fun _ h => h) ?_
                refine w_iald rfl rfl (vp_in_nI (n := d0) (N := 6) (by omega) (by decide)) ?_
                rw [nI_clamp (show d0 < 2 ^ 31 by omega)]
                rw [hro2 d0 (by omega)]
                refine w_blk 1 (pc' := 75) (ls' := [some (.ref 53), some (.int (nI dg)), some (.int (nI R)), some (.int (nI d0))]) (sk' := [.int ((nI (8 * d0)) + (nI (a d0))), .ref 67]) (st' := s0) (fun _ h => h) ?_
                rw [show ((nI (8 * d0)) + (nI (a d0))) = nI ((8 * d0) + (a d0)) from nI_add (8 * d0) (a d0)]
                refine w_bald2 rfl rfl (vp_in_nI (n := ((8 * d0) + (a d0))) (N := 48) (by omega) (by decide)) ?_
                rw [nI_clamp (show ((8 * d0) + (a d0)) < 2 ^ 31 by omega)]
                rw [hEs ((8 * d0) + (a d0)) (by omega)]
                rw [e8, e8b]
                refine w_if_eq rfl (fun h4 => ?_) (fun h4 => ?_)
                · replace h4 := pI_eq0.mp h4
                  refine w_blk 4 (pc' := 93) (ls' := [some (.ref 53), some (.int (nI dg)), some (.int (nI R)), some (.int (nI d0))]) (sk' := [.int (nI d0), .ref 75, .int (nI d0), .ref 75]) (st' := s0) (fun _ h => h) ?_
                  refine w_iald rfl rfl (vp_in_nI (n := d0) (N := 6) (by omega) (by decide)) ?_
                  rw [nI_clamp (show d0 < 2 ^ 31 by omega)]
                  rw [hro2 d0 (by omega)]
                  refine w_blk 2 (pc' := 96) (ls' := [some (.ref 53), some (.int (nI dg)), some (.int (nI R)), some (.int (nI d0))]) (sk' := [.int ((nI (a d0)) + 1), .int (nI d0), .ref 75]) (st' := s0) (fun _ h => h) ?_
                  rw [show ((nI (a d0)) + 1) = nI ((a d0) + 1) from nI_add (a d0) 1]
                  refine w_iast rfl rfl (vp_in_nI (n := d0) (N := 6) (by omega) (by decide)) ?_
                  rw [nI_clamp (show d0 < 2 ^ 31 by omega)]
                  refine w_blk 1 (pc' := 45) (ls' := [some (.ref 53), some (.int (nI dg)), some (.int (nI R)), some (.int (nI d0))]) (sk' := []) (st' := ((mU s0.1 75 d0 (nI ((a d0) + 1))), s0.2)) (fun _ h => h) ?_
                  have hup := POS_up (a := a) (d := d0)
                  have hupb := POS_bd (a := updN a d0 (a d0 + 1)) (d := d0) (by omega) (fun k hk => if ek : k = d0 then (by rw [ek, updN_s]; omega) else (by rw [updN_n ek]; exact hall8 k hk))
                  exact ihm (updN a d0 (a d0 + 1)) ((mU s0.1 75 d0 (nI ((a d0) + 1))), s0.2) (by rw [updN_s]; omega) (by omega) hd0 (fun k hk => by rw [updN_n (by omega)]; exact hpre k hk) (fun k e hk he => by rw [updN_n (by omega), updN_n (by omega)]; exact hdis k e hk he) (by rw [updN_s]; omega) (by rw [updN_s]; exact INB_cong (fun k hk => (updN_n (by omega)).symm) (INB_skip hinb (fun _ h9 => h4 (by have := (hF.1.1 d0 hd0).2; rw [h9] at this; exact this)))) (fun k hk => by rw [updN_n (by omega)]; exact (mU_row (by omega)).trans (hro k hk)) (Fr.trans hf (Fr.mU (by decide))) hEs (by rw [updN_s]; exact mU_at (f := s0.1) (p := 75) (k := d0))
                · replace h4 := pI_ne.mp h4
                  refine w_blk 2 (pc' := 81) (ls' := [some (.ref 53), some (.int (nI dg)), some (.int (nI R)), some (.int (nI d0))]) (sk' := [.int (nI d0), .ref 53]) (st' := s0) (fun _ h => h) ?_
                  have hus := m_isUsed (d + 4) a d0 s0 (by omega) (fun k hk => hro2 k (by omega)) hall8
                  refine w_callV (As := [.ref 53, .int (nI d0)]) (rest := []) rfl rfl rfl (Nat.le_of_ble_eq_true rfl) (Nat.le_of_ble_eq_true rfl) (by first | exact Or.inl ⟨rfl, rfl⟩ | exact Or.inr ⟨rfl, rfl⟩) hus ?_
                  refine w_if_eq rfl (fun h5 => ?_) (fun h5 => ?_)
                  · replace h5 := pI_eq0.mp h5
                    have hnu : ∀ e, e < d0 → a e ≠ a d0 := fun e he h9 => h5 ((hasB_iff d0).mpr ⟨e, he, decide_eq_true h9⟩)
                    have hpre2 : ∀ k, k < d0 + 1 → a k < n 1 ∧ E k (a k) = true := fun k hk => if ek : k = d0 then (by rw [ek]; exact ⟨by omega, h4⟩) else hpre k (by omega)
                    have hdis2 : ∀ k e, k < d0 + 1 → e < k → a e ≠ a k := fun k e hk he => if ek : k = d0 then (by rw [ek]; exact hnu e (by omega)) else hdis k e (by omega) he
                    refine w_blk 3 (pc' := 105) (ls' := [some (.ref 53), some (.int (nI dg)), some (.int (nI R)), some (.int (nI d0))]) (sk' := [.int (nI d0), .ref 75]) (st' := s0) (fun _ h => h) ?_
                    refine w_iald rfl rfl (vp_in_nI (n := d0) (N := 6) (by omega) (by decide)) ?_
                    rw [nI_clamp (show d0 < 2 ^ 31 by omega)]
                    rw [hro2 d0 (by omega)]
                    refine w_blk 3 (pc' := 111) (ls' := [some (.ref 53), some (.int (nI dg)), some (.int (nI R)), some (.int (nI d0))]) (sk' := [.int 0, .ref 59, .int (nI (a d0))]) (st' := s0) (fun _ h => h) ?_
                    refine w_iald rfl rfl (vp_in_nI (n := 0) (N := 2) (by decide) (by decide)) ?_
                    rw [show Int32.toNatClampNeg (0 : Int32) = 0 from rfl]
                    rw [hR3.2.1]
                    refine w_cmp_lt rfl (fun _ => ?_) (fun hno => absurd (nI_lt (by omega) (by omega)) hno)
                    refine w_blk 4 (pc' := 127) (ls' := [some (.ref 53), some (.int (nI dg)), some (.int (nI R)), some (.int (nI d0))]) (sk' := [.int 0, .ref 55, .int (nI d0)]) (st' := s0) (fun _ h => h) ?_
                    refine w_iald rfl rfl (vp_in_nI (n := 0) (N := 2) (by decide) (by decide)) ?_
                    rw [show Int32.toNatClampNeg (0 : Int32) = 0 from rfl]
                    rw [hR3.1]
                    refine w_blk 2 (pc' := 130) (ls' := [some (.ref 53), some (.int (nI dg)), some (.int (nI R)), some (.int (nI d0))]) (sk' := [.int ((nI (n 0)) - 1), .int (nI d0)]) (st' := s0) (fun _ h => h) ?_
                    rw [show ((nI (n 0)) - 1) = nI ((n 0) - 1) from pk_sub (a := n 0) (b := 1) (by omega)]
                    refine w_cmp_ge rfl (fun h6 => ?_) (fun h6 => ?_)
                    · replace h6 : (n 0) - 1 ≤ d0 := (nI_leI (a := ((n 0) - 1)) (b := d0) (by omega) (by omega)).mp h6
                      have hlast : n 0 = d0 + 1 := by omega
                      refine w_blk 4 (pc' := 150) (ls' := [some (.ref 53), some (.int (nI dg)), some (.int (nI R)), some (.int (nI d0))]) (sk' := [.int ((nI R) - 1), .ref 53]) (st' := s0) (fun _ h => h) ?_
                      rw [show ((nI R) - 1) = nI (R - 1) from pk_sub (a := R) (b := 1) (by omega)]
                      obtain ⟨s4, hc4, hE4, hf4⟩ := m_leaves (d + 0) n c E a (R - 1) s0 hR3 hB hEs hEn (by omega) (fun k hk => hro2 k (by omega)) (fun k hk => ⟨Nat.lt_of_lt_of_le (hpre2 k (by omega)).1 hb1, (hpre2 k (by omega)).2⟩)
                      have hf5 : Fr [67, 68, 69, 70, 71, 72, 73, 74, 75] st s4 := Fr.trans hf (Fr.mono hf4 (by decide))
                      have hro4 : ∀ k, k < d0 + 1 → s4.1 75 k = nI (a k) := fun k hk => by rw [hf4.1 75 (by decide)]; exact hro2 k hk
                      refine w_callV (As := [.ref 53, .int (nI (R - 1))]) (rest := []) rfl rfl rfl (Nat.le_of_ble_eq_true rfl) (Nat.le_of_ble_eq_true rfl) (by first | exact Or.inl ⟨rfl, rfl⟩ | exact Or.inr ⟨rfl, rfl⟩) hc4 ?_
                      refine w_if_eq rfl (fun h7 => ?_) (fun h7 => ?_)
                      · replace h7 := pI_eq0.mp h7
                        have hup := POS_up (a := a) (d := d0)
                        have hupb := POS_bd (a := updN a d0 (a d0 + 1)) (d := d0) (by omega) (fun k hk => if ek : k = d0 then (by rw [ek, updN_s]; omega) else (by rw [updN_n ek]; exact hall8 k hk))
                        exact ih d0 (updN a d0 (a d0 + 1)) s4 (by omega) hd0 (fun k hk => by rw [updN_n (by omega)]; exact hpre k hk) (fun k e hk he => by rw [updN_n (by omega), updN_n (by omega)]; exact hdis k e hk he) (by rw [updN_s]; omega) (by rw [updN_s]; exact INB_cong (fun k hk => (updN_n (by omega)).symm) (INB_skip hinb (fun hag h9 => h7 (by have h8 := hF.1.2.2; unfold LVS at h8; rw [Em_cong (ρ := ρ) (ρ' := a) (fun k hk => if ek : k = d0 then (by rw [ek]; exact h9) else (hag k (by omega)).symm)] at h8; exact h8)))) (fun k hk => by rw [updN_n (by omega)]; exact hro4 k (by omega)) hf5 hE4 (by rw [updN_s, hro4 d0 (by omega)]; exact nI_add _ _)
                      · replace h7 := pI_ne.mp h7
                        have hokA : OKR E (n 0) R a := ⟨fun k hk => ⟨Nat.lt_of_lt_of_le (hpre2 k (by omega)).1 hb1, (hpre2 k (by omega)).2⟩, fun k e hk he => hdis2 k e (by omega) he, h7⟩
                        have hnl := hF.2 a hokA
                        have hFA : FST E (n 0) R a := by
                          have hag : ∀ k, k < n 0 → ρ k = a k := by
                            rcases hinb with ⟨h8, h9⟩ | ⟨e, he, h8, h9⟩
                            · intro k hk
                              by_cases ek : k = d0
                              · subst ek
                                by_cases hlt : a k < ρ k
                                · exact absurd ⟨k, hk, h8, hlt⟩ hnl
                                · omega
                              · exact (h8 k (by omega)).symm
                            · exact absurd ⟨e, by omega, h8, h9⟩ hnl
                          exact ⟨hokA, fun b hb hl => hF.2 b hb (by obtain ⟨e, he, h8, h9⟩ := hl; exact ⟨e, he, fun k hk => (h8 k hk).trans (hag k (by omega)).symm, by rw [hag e he]; exact h9⟩)⟩
                        refine w_blk 3 (pc' := 161) (ls' := [some (.ref 53), some (.int (nI dg)), some (.int (nI R)), some (.int (nI d0))]) (sk' := [.int (nI dg), .ref 75]) (st' := s4) (fun _ h => h) ?_
                        refine w_iald rfl rfl (vp_in_nI (n := dg) (N := 6) (by omega) (by decide)) ?_
                        rw [nI_clamp (show dg < 2 ^ 31 by omega)]
                        rw [hro4 dg (by omega)]
                        exact w_iret rfl rfl rfl (hq _ s4 ⟨⟨fun hh => absurd h1 hh, fun _ => ⟨R, hlg, fun hh => absurd hh (by omega), fun _ => ⟨a, hFA, by rw [ec]⟩⟩⟩, hf5⟩)
                    · replace h6 : ¬ ((n 0) - 1 ≤ d0) := fun hh => h6 ((nI_leI (a := ((n 0) - 1)) (b := d0) (by omega) (by omega)).mpr hh)
                      refine w_blk 1 (pc' := 136) (ls' := [some (.ref 53), some (.int (nI dg)), some (.int (nI R)), some (.int ((nI d0) + 1))]) (sk' := []) (st' := s0) (fun _ h => h) ?_
                      rw [show ((nI d0) + 1) = nI (d0 + 1) from nI_add d0 1]
                      refine w_blk 4 (pc' := 142) (ls' := [some (.ref 53), some (.int (nI dg)), some (.int (nI R)), some (.int (nI (d0 + 1)))]) (sk' := [.int (-1), .int (nI (d0 + 1)), .ref 75]) (st' := s0) (fun _ h => h) ?_
                      refine w_iast rfl rfl (vp_in_nI (n := (d0 + 1)) (N := 6) (by omega) (by decide)) ?_
                      rw [nI_clamp (show (d0 + 1) < 2 ^ 31 by omega)]
                      refine w_blk 1 (pc' := 35) (ls' := [some (.ref 53), some (.int (nI dg)), some (.int (nI R)), some (.int (nI (d0 + 1)))]) (sk' := []) (st' := ((mU s0.1 75 (d0 + 1) (-1)), s0.2)) (fun _ h => h) ?_
                      have hon := POS_on (a := a) (d := d0) (by omega)
                      exact ih (d0 + 1) (updN a (d0 + 1) 0) ((mU s0.1 75 (d0 + 1) (-1)), s0.2) (by omega) (by omega) (fun k hk => by rw [updN_n (by omega)]; exact hpre2 k hk) (fun k e hk he => by rw [updN_n (by omega), updN_n (by omega)]; exact hdis2 k e hk he) (by rw [updN_s]; omega) (by rw [updN_s]; exact INB_cong (fun k hk => (updN_n (by omega)).symm) (INB_on hinb)) (fun k hk => by rw [updN_n (by omega)]; exact (mU_row (by omega)).trans (hro2 k hk)) (Fr.trans hf (Fr.mU (by decide))) hEs (by rw [updN_s]; exact (congrArg (· + 1) (mU_at (f := s0.1) (p := 75) (k := d0 + 1))).trans (show (-1 : Int32) + 1 = nI 0 by decide))
                  · replace h5 := pI_ne.mp h5
                    refine w_blk 4 (pc' := 93) (ls' := [some (.ref 53), some (.int (nI dg)), some (.int (nI R)), some (.int (nI d0))]) (sk' := [.int (nI d0), .ref 75, .int (nI d0), .ref 75]) (st' := s0) (fun _ h => h) ?_
                    refine w_iald rfl rfl (vp_in_nI (n := d0) (N := 6) (by omega) (by decide)) ?_
                    rw [nI_clamp (show d0 < 2 ^ 31 by omega)]
                    rw [hro2 d0 (by omega)]
                    refine w_blk 2 (pc' := 96) (ls' := [some (.ref 53), some (.int (nI dg)), some (.int (nI R)), some (.int (nI d0))]) (sk' := [.int ((nI (a d0)) + 1), .int (nI d0), .ref 75]) (st' := s0) (fun _ h => h) ?_
                    rw [show ((nI (a d0)) + 1) = nI ((a d0) + 1) from nI_add (a d0) 1]
                    refine w_iast rfl rfl (vp_in_nI (n := d0) (N := 6) (by omega) (by decide)) ?_
                    rw [nI_clamp (show d0 < 2 ^ 31 by omega)]
                    refine w_blk 1 (pc' := 45) (ls' := [some (.ref 53), some (.int (nI dg)), some (.int (nI R)), some (.int (nI d0))]) (sk' := []) (st' := ((mU s0.1 75 d0 (nI ((a d0) + 1))), s0.2)) (fun _ h => h) ?_
                    have hup := POS_up (a := a) (d := d0)
                    have hupb := POS_bd (a := updN a d0 (a d0 + 1)) (d := d0) (by omega) (fun k hk => if ek : k = d0 then (by rw [ek, updN_s]; omega) else (by rw [updN_n ek]; exact hall8 k hk))
                    exact ihm (updN a d0 (a d0 + 1)) ((mU s0.1 75 d0 (nI ((a d0) + 1))), s0.2) (by rw [updN_s]; omega) (by omega) hd0 (fun k hk => by rw [updN_n (by omega)]; exact hpre k hk) (fun k e hk he => by rw [updN_n (by omega), updN_n (by omega)]; exact hdis k e hk he) (by rw [updN_s]; omega) (by rw [updN_s]; exact INB_cong (fun k hk => (updN_n (by omega)).symm) (INB_skip hinb (fun hag h9 => by obtain ⟨e, he, h8⟩ := (hasB_iff d0).mp h5; have h7 := hF.1.2.1 d0 e hd0 he; rw [h9, ← hag e he] at h7; exact h7 (of_decide_eq_true h8)))) (fun k hk => by rw [updN_n (by omega)]; exact (mU_row (by omega)).trans (hro k hk)) (Fr.trans hf (Fr.mU (by decide))) hEs (by rw [updN_s]; exact mU_at (f := s0.1) (p := 75) (k := d0))
          intro a s0 hm hd0 hpre hdis ha8 hinb hro hf hEs hc9
          have hR3 : MR s0 n c := MR_fr hf (by decide) hR
          refine w_blk 4 (pc' := 41) (ls' := [some (.ref 53), some (.int (nI dg)), some (.int (nI R)), some (.int (nI d0))]) (sk' := [.int (nI d0), .ref 75, .int (nI d0), .ref 75]) (st' := s0) (fun _ h => h) ?_
          refine w_iald rfl rfl (vp_in_nI (n := d0) (N := 6) (by omega) (by decide)) ?_
          rw [nI_clamp (show d0 < 2 ^ 31 by omega)]
          refine w_blk 2 (pc' := 44) (ls' := [some (.ref 53), some (.int (nI dg)), some (.int (nI R)), some (.int (nI d0))]) (sk' := [.int ((s0.1 75 d0) + 1), .int (nI d0), .ref 75]) (st' := s0) (fun _ h => h) ?_
          rw [hc9]
          refine w_iast rfl rfl (vp_in_nI (n := d0) (N := 6) (by omega) (by decide)) ?_
          rw [nI_clamp (show d0 < 2 ^ 31 by omega)]
          exact inner 9 a ((mU s0.1 75 d0 (nI (a d0))), s0.2) (by omega) hm hd0 hpre hdis ha8 hinb (fun k hk => (mU_row (by omega)).trans (hro k hk)) (Fr.trans hf (Fr.mU (by decide))) hEs (mU_at (f := s0.1) (p := 75) (k := d0))
      refine w_blk 6 (pc' := 34) (ls' := [some (.ref 53), some (.int (nI dg)), some (.int (nI R)), some (.int 0)]) (sk' := [.int (-1), .int 0, .ref 75]) (st' := s2) (fun _ h => h) ?_
      refine w_iast rfl rfl (vp_in_nI (n := 0) (N := 6) (by decide) (by decide)) ?_
      rw [show Int32.toNatClampNeg (0 : Int32) = 0 from rfl]
      exact key _ 0 (fun _ => 0) ((mU s2.1 75 0 (-1)), s2.2) (Nat.le_refl _) (by omega) (fun k hk => absurd hk (Nat.not_lt_zero _)) (fun k e hk => absurd hk (Nat.not_lt_zero _)) (by decide) (Or.inl ⟨fun k hk => absurd hk (Nat.not_lt_zero _), Nat.zero_le _⟩) (fun k hk => absurd hk (Nat.not_lt_zero _)) (Fr.trans hf12 (Fr.mU (by decide))) hE2 ((congrArg (· + 1) (mU_at (f := s2.1) (p := 75) (k := 0))).trans (show (-1 : Int32) + 1 = nI 0 by decide))
    · replace h2 : R = 0 := (nI_eq (a := R) (b := 0) (by omega) (by omega)).mp (Decidable.not_not.mp h2)
      refine w_blk 1 (pc' := 25) (ls' := [some (.ref 53), some (.int (nI dg)), some (.int (nI R)), none]) (sk' := [.int (-9)]) (st' := s2) (fun _ h => h) ?_
      exact w_iret rfl rfl rfl (hq _ s2 ⟨⟨fun hh => absurd h1 hh, fun _ => ⟨R, hlg, fun _ => rfl, fun hh => absurd h2 hh⟩⟩, hf12⟩)
  · replace h1 := pI_eq0.mp (Decidable.not_not.mp h1)
    refine w_blk 1 (pc' := 9) (ls' := [some (.ref 53), some (.int x), none, none]) (sk' := [.int (-1)]) (st' := st) (fun _ h => h) ?_
    exact w_iret rfl rfl rfl (hq _ st ⟨⟨fun _ => rfl, fun hh => absurd hh h1⟩, Fr.rf⟩)
