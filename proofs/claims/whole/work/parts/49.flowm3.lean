/-! FLOWS: the model: longest, most -/
def VAL (E T : EdT) (r nd : Nat) : Prop := (∀ d s, d < 6 → s < 8 → T d s = true → E d s = true) ∧ (∀ d, d < 6 → dD T d ≤ r) ∧ (∀ s, s < 8 → dS T s ≤ r)
theorem VAL_0 {E : EdT} {r nd : Nat} : VAL E (fun _ _ => false) r nd := ⟨fun _ _ _ _ h => absurd h Bool.false_ne_true, fun d _ => by rw [dD_e]; exact Nat.zero_le _, fun s _ => by rw [dS_e]; exact Nat.zero_le _⟩
theorem wF_true {n : Nat → Nat} {c : Nat → Nat → Nat} : wF n c true = wP := rfl
/-- a search for plain throws: it goes on, or says whether all have enough -/
theorem long_step {E T : EdT} {r nd : Nat} (hnd : nd ≤ 6) (hE : ∀ d s, d < 6 → s < 8 → E d s = true → d < nd) (hV : VAL E T r nd) :
    (bstO (fin_ T E wP r nd) T r 8 = none → (sm (dD T) 6 = r * nd ↔ hall E r nd)) ∧
    ∀ f, bstO (fin_ T E wP r nd) T r 8 = some f → 0 < (fin_ T E wP r nd).1 (6 + f) ∧ VAL E (flq (fin_ T E wP r nd).2 6 f T) r nd ∧ sm (dD (flq (fin_ T E wP r nd).2 6 f T)) 6 = sm (dD T) 6 + 1 := by
  obtain ⟨h1, h2, h3⟩ := hV
  have hP : PV E T wP r nd pP 1000 := PV_plain h1 h2 h3
  obtain ⟨hs0, hs1⟩ := flow_step hP wP_WB
  obtain ⟨t, hF⟩ := fin_FIX hP wP_WB
  have hZ : ∀ d, d < 6 → nd ≤ d → dD T d = 0 := fun d hd hn => sm_zero 8 (fun s hs => if_neg (fun e => absurd (hE d s hd hs (h1 d s hd hs e)) (by omega)))
  obtain ⟨q1, q2⟩ := full_iff hnd h2 hZ
  constructor
  · intro h0
    have hno := (bstO_spec (x := fin_ T E wP r nd) (T := T) (r := r) 8).1 h0
    constructor
    · intro he
      exact hall_of h1 (fun d hd hd6 => Nat.le_of_eq (q1 he d hd).symm) h3
    · intro hh
      by_cases he : sm (dD T) 6 = r * nd
      · exact he
      · obtain ⟨d0, hd0, hr0⟩ := q2 he
        exact absurd hh (cut_of hF fin_src h1 hE h2 h3 (fun s hs hsr hre => by
          by_cases e : 0 < (fin_ T E wP r nd).1 (6 + s)
          · exact absurd ⟨hsr, e⟩ (hno s hs)
          · omega) hnd hd0 hr0)
  · intro f hf
    obtain ⟨hf8, hpos, n, hn, hc, ⟨p', G', hP2⟩, d0, -, hd06, -, hdD, -⟩ := hs1 f hf
    rw [flq_fl n 6 f T (by omega) hc]
    obtain ⟨g1, -, -, -, -, -, g2, g3, -⟩ := hP2
    refine ⟨hpos, ⟨fun d s hd hs ht => (g1 d s hd hs ht).1, g2, g3⟩, ?_⟩
    rw [sm_congr (g := fun d => dD T d + (if d = d0 then 1 else 0)) 6 hdD, sm_add, sm_one 6 d0 hd06]
set_option maxRecDepth 20000 in
/-- isLong(r) -/
theorem m_isLong (d : Nat) (n : Nat → Nat) (c : Nat → Nat → Nat) (E : EdT) (r : Nat) (st : mSt) (hR : MR st n c) (hB : CB n c) (hE : MEd st E) (hEn : ∀ d s, d < 6 → s < 8 → E d s = true → d < n 0 ∧ s < n 1) (hr : r ≤ 8) : ∃ (s : mSt), mMC mT (d + 4) 160 [.ref 53, .int (nI r)] st (some (.int (pI (hallB E r (n 0) = true)))) s ∧ Fr [68, 69, 70, 71, 72, 73, 74] st s := by
  suffices H : ∀ Q : Option Value → mSt → Prop, (∀ (s : mSt), Fr [68, 69, 70, 71, 72, 73, 74] st s → Q (some (.int (pI (hallB E r (n 0) = true)))) s) → mW (mMC mT (d + 3)) (0, fun _ => 0) (mAtL P_X10_isLong) (some .boolean) Q 0 [some (.ref 53), some (.int (nI r)), none] [] st by
    obtain ⟨_, _, ⟨s, rfl, rfl, hp⟩, hw⟩ := mW_ex (H (fun vv tt => ∃ (s : mSt),  vv = some (.int (pI (hallB E r (n 0) = true))) ∧ s = tt ∧ Fr [68, 69, 70, 71, 72, 73, 74] st s) (fun s hp => ⟨s, rfl, rfl, hp⟩))
    exact ⟨s, mI_X10_isLong (d := d + 3) (Nat.le_of_ble_eq_true rfl) hw, hp⟩
  intro Q hq
  obtain ⟨hb0, hb1, hb2, hbd, hbs, hby⟩ := id hB
  refine w_blk 1 (pc' := 1) (ls' := [some (.ref 53), some (.int (nI r)), none]) (sk' := [.ref 53]) (st' := st) (fun _ h => h) ?_
  obtain ⟨s0, hc0, hT0, hH0, hf0⟩ := m_begin (d + 2) st
  refine w_callV (As := [.ref 53]) (rest := []) rfl rfl rfl (Nat.le_of_ble_eq_true rfl) (Nat.le_of_ble_eq_true rfl) (by first | exact Or.inl ⟨rfl, rfl⟩ | exact Or.inr ⟨rfl, rfl⟩) hc0 ?_
  refine w_blk 2 (pc' := 6) (ls' := [some (.ref 53), some (.int (nI r)), some (.int 0)]) (sk' := []) (st' := s0) (fun _ h => h) ?_
  suffices key : ∀ (f : Nat) (T : EdT) (s1 : mSt), 48 ≤ sm (dD T) 6 + f → VAL E T r (n 0) → MTk s1 T → MHd s1 T → Fr [68, 69, 70, 71, 72, 73, 74] st s1 → mW (mMC mT (d + 3)) (0, fun _ => 0) (mAtL P_X10_isLong) (some .boolean) Q 6 [some (.ref 53), some (.int (nI r)), some (.int (nI (sm (dD T) 6)))] [] s1 from (by have hh := key 48 _ s0 (by omega) VAL_0 hT0 hH0 (Fr.mono hf0 (by decide)); rw [show sm (dD (fun _ _ => false)) 6 = 0 from sm_zero 6 (fun d _ => dD_e d)] at hh; exact hh)
  have hE9 : ∀ d s, d < 6 → s < 8 → E d s = true → d < n 0 := fun d s hd hs he => (hEn d s hd hs he).1
  intro f
  induction f with
  | zero =>
    intro T s1 hm hV hT hH hf
    obtain ⟨hl0, hl1⟩ := long_step hb0 hE9 hV
    have h48 := sum_48 T
    have hR1 : MR s1 n c := MR_fr hf (by decide) hR
    have hE1 : MEd s1 E := MEd_e (hf.1 67 (by decide)) hE
    refine w_blk 3 (pc' := 9) (ls' := [some (.ref 53), some (.int (nI r)), some (.int (nI (sm (dD T) 6)))]) (sk' := [.int 1, .int (nI r), .ref 53]) (st' := s1) (fun _ h => h) ?_
    obtain ⟨v, s2, hc2, hn2, hs2, hf2⟩ := m_augment1 (d + 0) n c E T r pP 1000 s1 hR1 hB hE1 hT hH hEn hV.1 (PV_plain hV.1 hV.2.1 hV.2.2) hr
    have hf3 : Fr [68, 69, 70, 71, 72, 73, 74] st s2 := Fr.trans hf hf2
    rw [wF_true] at hn2 hs2
    refine w_callV (As := [.ref 53, .int (nI r), .int 1]) (rest := []) rfl rfl rfl (Nat.le_of_ble_eq_true rfl) (Nat.le_of_ble_eq_true rfl) (by first | exact Or.inl ⟨rfl, rfl⟩ | exact Or.inr ⟨rfl, rfl⟩) hc2 ?_
    rcases e : bstO (fin_ T E wP r (n 0)) T r 8 with _ | g
    · obtain ⟨hv, hT2, hH2⟩ := hn2 e
      subst hv
      have hR2 : MR s2 n c := MR_fr hf3 (by decide) hR
      refine w_if_le rfl (fun _ => ?_) (fun hno => absurd (by decide) hno)
      refine w_blk 5 (pc' := 28) (ls' := [some (.ref 53), some (.int (nI r)), some (.int (nI (sm (dD T) 6)))]) (sk' := [.int 0, .ref 55, .int (nI r), .int (nI (sm (dD T) 6))]) (st' := s2) (fun _ h => h) ?_
      refine w_iald rfl rfl (vp_in_nI (n := 0) (N := 2) (by decide) (by decide)) ?_
      rw [show Int32.toNatClampNeg (0 : Int32) = 0 from rfl]
      rw [hR2.1]
      refine w_blk 1 (pc' := 30) (ls' := [some (.ref 53), some (.int (nI r)), some (.int (nI (sm (dD T) 6)))]) (sk' := [.int ((nI r) * (nI (n 0))), .int (nI (sm (dD T) 6))]) (st' := s2) (fun _ h => h) ?_
      rw [show ((nI r) * (nI (n 0))) = nI (r * (n 0)) from pk_mul r (n 0)]
      have hrn : r * n 0 ≤ 48 := Nat.mul_le_mul hr hb0
      refine w_cmp_ne rfl (fun h1 => ?_) (fun h1 => ?_)
      · replace h1 : ¬ (sm (dD T) 6 = r * (n 0)) := fun hh => h1 ((nI_eq (a := (sm (dD T) 6)) (b := (r * (n 0))) (by omega) (by omega)).mpr hh)
        refine w_blk 1 (pc' := 38) (ls' := [some (.ref 53), some (.int (nI r)), some (.int (nI (sm (dD T) 6)))]) (sk' := [.int 0]) (st' := s2) (fun _ h => h) ?_
        exact w_iret rfl rfl rfl (by have hh := hq s2; rw [show pI (hallB E r (n 0) = true) = 0 from pI_f (fun hh => h1 ((hl0 e).mpr (hallB_iff.mp hh)))] at hh; exact hh hf3)
      · replace h1 : sm (dD T) 6 = r * (n 0) := (nI_eq (a := (sm (dD T) 6)) (b := (r * (n 0))) (by omega) (by omega)).mp (Decidable.not_not.mp h1)
        refine w_blk 2 (pc' := 38) (ls' := [some (.ref 53), some (.int (nI r)), some (.int (nI (sm (dD T) 6)))]) (sk' := [.int 1]) (st' := s2) (fun _ h => h) ?_
        exact w_iret rfl rfl rfl (by have hh := hq s2; rw [show pI (hallB E r (n 0) = true) = 1 from pI_t (hallB_iff.mpr ((hl0 e).mp h1))] at hh; exact hh hf3)
    · obtain ⟨hv, hT2, hH2⟩ := hs2 g e
      obtain ⟨hpos, hV2, hsum⟩ := hl1 g e
      have h49 := sum_48 (flq (fin_ T E wP r (n 0)).2 6 g T)
      exact absurd h49 (by omega)
  | succ f ih =>
    intro T s1 hm hV hT hH hf
    obtain ⟨hl0, hl1⟩ := long_step hb0 hE9 hV
    have h48 := sum_48 T
    have hR1 : MR s1 n c := MR_fr hf (by decide) hR
    have hE1 : MEd s1 E := MEd_e (hf.1 67 (by decide)) hE
    refine w_blk 3 (pc' := 9) (ls' := [some (.ref 53), some (.int (nI r)), some (.int (nI (sm (dD T) 6)))]) (sk' := [.int 1, .int (nI r), .ref 53]) (st' := s1) (fun _ h => h) ?_
    obtain ⟨v, s2, hc2, hn2, hs2, hf2⟩ := m_augment1 (d + 0) n c E T r pP 1000 s1 hR1 hB hE1 hT hH hEn hV.1 (PV_plain hV.1 hV.2.1 hV.2.2) hr
    have hf3 : Fr [68, 69, 70, 71, 72, 73, 74] st s2 := Fr.trans hf hf2
    rw [wF_true] at hn2 hs2
    refine w_callV (As := [.ref 53, .int (nI r), .int 1]) (rest := []) rfl rfl rfl (Nat.le_of_ble_eq_true rfl) (Nat.le_of_ble_eq_true rfl) (by first | exact Or.inl ⟨rfl, rfl⟩ | exact Or.inr ⟨rfl, rfl⟩) hc2 ?_
    rcases e : bstO (fin_ T E wP r (n 0)) T r 8 with _ | g
    · obtain ⟨hv, hT2, hH2⟩ := hn2 e
      subst hv
      have hR2 : MR s2 n c := MR_fr hf3 (by decide) hR
      refine w_if_le rfl (fun _ => ?_) (fun hno => absurd (by decide) hno)
      refine w_blk 5 (pc' := 28) (ls' := [some (.ref 53), some (.int (nI r)), some (.int (nI (sm (dD T) 6)))]) (sk' := [.int 0, .ref 55, .int (nI r), .int (nI (sm (dD T) 6))]) (st' := s2) (fun _ h => h) ?_
      refine w_iald rfl rfl (vp_in_nI (n := 0) (N := 2) (by decide) (by decide)) ?_
      rw [show Int32.toNatClampNeg (0 : Int32) = 0 from rfl]
      rw [hR2.1]
      refine w_blk 1 (pc' := 30) (ls' := [some (.ref 53), some (.int (nI r)), some (.int (nI (sm (dD T) 6)))]) (sk' := [.int ((nI r) * (nI (n 0))), .int (nI (sm (dD T) 6))]) (st' := s2) (fun _ h => h) ?_
      rw [show ((nI r) * (nI (n 0))) = nI (r * (n 0)) from pk_mul r (n 0)]
      have hrn : r * n 0 ≤ 48 := Nat.mul_le_mul hr hb0
      refine w_cmp_ne rfl (fun h1 => ?_) (fun h1 => ?_)
      · replace h1 : ¬ (sm (dD T) 6 = r * (n 0)) := fun hh => h1 ((nI_eq (a := (sm (dD T) 6)) (b := (r * (n 0))) (by omega) (by omega)).mpr hh)
        refine w_blk 1 (pc' := 38) (ls' := [some (.ref 53), some (.int (nI r)), some (.int (nI (sm (dD T) 6)))]) (sk' := [.int 0]) (st' := s2) (fun _ h => h) ?_
        exact w_iret rfl rfl rfl (by have hh := hq s2; rw [show pI (hallB E r (n 0) = true) = 0 from pI_f (fun hh => h1 ((hl0 e).mpr (hallB_iff.mp hh)))] at hh; exact hh hf3)
      · replace h1 : sm (dD T) 6 = r * (n 0) := (nI_eq (a := (sm (dD T) 6)) (b := (r * (n 0))) (by omega) (by omega)).mp (Decidable.not_not.mp h1)
        refine w_blk 2 (pc' := 38) (ls' := [some (.ref 53), some (.int (nI r)), some (.int (nI (sm (dD T) 6)))]) (sk' := [.int 1]) (st' := s2) (fun _ h => h) ?_
        exact w_iret rfl rfl rfl (by have hh := hq s2; rw [show pI (hallB E r (n 0) = true) = 1 from pI_t (hallB_iff.mpr ((hl0 e).mp h1))] at hh; exact hh hf3)
    · obtain ⟨hv, hT2, hH2⟩ := hs2 g e
      obtain ⟨hpos, hV2, hsum⟩ := hl1 g e
      have hlb := lab_bd (T := T) (E := E) wP_WB (r := r) (nd := n 0) (6 + g)
      have hNO : NOi = -1000000 := rfl
      subst hv
      refine w_if_le rfl (fun h1 => ?_) (fun h1 => ?_)
      · replace h1 : (fin_ T E wP r (n 0)).1 (6 + g) ≤ (0 : Int) := by rw [iI_0] at h1; exact (iI_le (a := (fin_ T E wP r (n 0)).1 (6 + g)) (b := (0 : Int)) (by omega) (by omega) (by omega) (by omega)).mp h1
        exact absurd h1 (by omega)
      · replace h1 : ¬ ((fin_ T E wP r (n 0)).1 (6 + g) ≤ (0 : Int)) := fun hh => h1 (by rw [iI_0]; exact (iI_le (a := (fin_ T E wP r (n 0)).1 (6 + g)) (b := (0 : Int)) (by omega) (by omega) (by omega) (by omega)).mpr hh)
        refine w_blk 1 (pc' := 18) (ls' := [some (.ref 53), some (.int (nI r)), some (.int ((nI (sm (dD T) 6)) + 1))]) (sk' := []) (st' := s2) (fun _ h => h) ?_
        rw [show ((nI (sm (dD T) 6)) + 1) = nI ((sm (dD T) 6) + 1) from nI_add (sm (dD T) 6) 1]
        refine w_blk 1 (pc' := 6) (ls' := [some (.ref 53), some (.int (nI r)), some (.int (nI ((sm (dD T) 6) + 1)))]) (sk' := []) (st' := s2) (fun _ h => h) ?_
        exact (by have hh := ih _ s2 (by rw [hsum]; omega) hV2 hT2 hH2 hf3; rw [hsum] at hh; exact hh)
set_option maxRecDepth 20000 in
/-- longestBy() -/
theorem m_longestBy (d : Nat) (n : Nat → Nat) (c : Nat → Nat → Nat) (E : EdT) (st : mSt) (hR : MR st n c) (hB : CB n c) (hE : MEd st E) (hEn : ∀ d s, d < 6 → s < 8 → E d s = true → d < n 0 ∧ s < n 1) : ∃ (R : Nat) (s : mSt), mMC mT (d + 5) 161 [.ref 53] st (some (.int (nI R))) s ∧ LGR (fun q => hallB E q (n 0)) (n 0) R ∧ Fr [68, 69, 70, 71, 72, 73, 74] st s := by
  suffices H : ∀ Q : Option Value → mSt → Prop, (∀ (R : Nat) (s : mSt), (LGR (fun q => hallB E q (n 0)) (n 0) R ∧ Fr [68, 69, 70, 71, 72, 73, 74] st s) → Q (some (.int (nI R))) s) → mW (mMC mT (d + 4)) (0, fun _ => 0) (mAtL P_X10_longestBy) (some .int) Q 0 [some (.ref 53), none] [] st by
    obtain ⟨_, _, ⟨R, s, rfl, rfl, hp⟩, hw⟩ := mW_ex (H (fun vv tt => ∃ (R : Nat) (s : mSt),  vv = some (.int (nI R)) ∧ s = tt ∧ LGR (fun q => hallB E q (n 0)) (n 0) R ∧ Fr [68, 69, 70, 71, 72, 73, 74] st s) (fun R s hp => ⟨R, s, rfl, rfl, hp⟩))
    exact ⟨R, s, mI_X10_longestBy (d := d + 4) (Nat.le_of_ble_eq_true rfl) hw, hp⟩
  intro Q hq
  obtain ⟨hb0, hb1, hb2, hbd, hbs, hby⟩ := id hB
  refine w_blk 2 (pc' := 2) (ls' := [some (.ref 53), some (.int 0)]) (sk' := []) (st' := st) (fun _ h => h) ?_
  suffices key : ∀ (m r : Nat) (s0 : mSt), r + m = 8 → (∀ q, 1 ≤ q → q ≤ r → hallB E q (n 0) = true) → (n 0 = 0 → r = 0) → Fr [68, 69, 70, 71, 72, 73, 74] st s0 → mW (mMC mT (d + 4)) (0, fun _ => 0) (mAtL P_X10_longestBy) (some .int) Q 2 [some (.ref 53), some (.int (nI r))] [] s0 from key 8 0 st (by omega) (fun q h1 h2 => absurd h1 (by omega)) (fun _ => rfl) Fr.rf
  intro m
  induction m with
  | zero =>
    intro r s0 hm hall h00 hf
    have hR1 : MR s0 n c := MR_fr hf (by decide) hR
    have hE1 : MEd s0 E := MEd_e (hf.1 67 (by decide)) hE
    refine w_blk 3 (pc' := 7) (ls' := [some (.ref 53), some (.int (nI r))]) (sk' := [.int 0, .ref 55]) (st' := s0) (fun _ h => h) ?_
    refine w_iald rfl rfl (vp_in_nI (n := 0) (N := 2) (by decide) (by decide)) ?_
    rw [show Int32.toNatClampNeg (0 : Int32) = 0 from rfl]
    rw [hR1.1]
    refine w_if_le rfl (fun h1 => ?_) (fun h1 => ?_)
    · replace h1 : n 0 ≤ 0 := (nI_leI (a := (n 0)) (b := 0) (by omega) (by omega)).mp h1
      refine w_blk 1 (pc' := 34) (ls' := [some (.ref 53), some (.int (nI r))]) (sk' := [.int (nI r)]) (st' := s0) (fun _ h => h) ?_
      have hn0 : n 0 = 0 := by omega
      have hr0 := h00 hn0
      exact w_iret rfl rfl rfl (hq r s0 ⟨⟨by omega, hall, fun _ => hr0, fun hh => absurd hh (by omega)⟩, hf⟩)
    · replace h1 : ¬ (n 0 ≤ 0) := fun hh => h1 ((nI_leI (a := (n 0)) (b := 0) (by omega) (by omega)).mpr hh)
      refine w_blk 2 (pc' := 14) (ls' := [some (.ref 53), some (.int (nI r))]) (sk' := [.int 8, .int (nI r)]) (st' := s0) (fun _ h => h) ?_
      refine w_cmp_ge rfl (fun h2 => ?_) (fun h2 => ?_)
      · replace h2 : 8 ≤ r := (nI_leI (a := 8) (b := r) (by omega) (by omega)).mp h2
        refine w_blk 1 (pc' := 34) (ls' := [some (.ref 53), some (.int (nI r))]) (sk' := [.int (nI r)]) (st' := s0) (fun _ h => h) ?_
        exact w_iret rfl rfl rfl (hq r s0 ⟨⟨by omega, hall, fun hh => absurd hh (by omega), fun _ => Or.inl (by omega)⟩, hf⟩)
      · replace h2 : ¬ (8 ≤ r) := fun hh => h2 ((nI_leI (a := 8) (b := r) (by omega) (by omega)).mpr hh)
        exact absurd (show 8 ≤ r by omega) h2
  | succ m ih =>
    intro r s0 hm hall h00 hf
    have hR1 : MR s0 n c := MR_fr hf (by decide) hR
    have hE1 : MEd s0 E := MEd_e (hf.1 67 (by decide)) hE
    refine w_blk 3 (pc' := 7) (ls' := [some (.ref 53), some (.int (nI r))]) (sk' := [.int 0, .ref 55]) (st' := s0) (fun _ h => h) ?_
    refine w_iald rfl rfl (vp_in_nI (n := 0) (N := 2) (by decide) (by decide)) ?_
    rw [show Int32.toNatClampNeg (0 : Int32) = 0 from rfl]
    rw [hR1.1]
    refine w_if_le rfl (fun h1 => ?_) (fun h1 => ?_)
    · replace h1 : n 0 ≤ 0 := (nI_leI (a := (n 0)) (b := 0) (by omega) (by omega)).mp h1
      refine w_blk 1 (pc' := 34) (ls' := [some (.ref 53), some (.int (nI r))]) (sk' := [.int (nI r)]) (st' := s0) (fun _ h => h) ?_
      have hn0 : n 0 = 0 := by omega
      have hr0 := h00 hn0
      exact w_iret rfl rfl rfl (hq r s0 ⟨⟨by omega, hall, fun _ => hr0, fun hh => absurd hh (by omega)⟩, hf⟩)
    · replace h1 : ¬ (n 0 ≤ 0) := fun hh => h1 ((nI_leI (a := (n 0)) (b := 0) (by omega) (by omega)).mpr hh)
      refine w_blk 2 (pc' := 14) (ls' := [some (.ref 53), some (.int (nI r))]) (sk' := [.int 8, .int (nI r)]) (st' := s0) (fun _ h => h) ?_
      refine w_cmp_ge rfl (fun h2 => ?_) (fun h2 => ?_)
      · replace h2 : 8 ≤ r := (nI_leI (a := 8) (b := r) (by omega) (by omega)).mp h2
        exact absurd h2 (by omega)
      · replace h2 : ¬ (8 ≤ r) := fun hh => h2 ((nI_leI (a := 8) (b := r) (by omega) (by omega)).mpr hh)
        refine w_blk 4 (pc' := 21) (ls' := [some (.ref 53), some (.int (nI r))]) (sk' := [.int ((nI r) + 1), .ref 53]) (st' := s0) (fun _ h => h) ?_
        rw [show ((nI r) + 1) = nI (r + 1) from nI_add r 1]
        obtain ⟨s1, hc1, hf1⟩ := m_isLong (d + 0) n c E (r + 1) s0 hR1 hB hE1 hEn (by omega)
        have hf2 : Fr [68, 69, 70, 71, 72, 73, 74] st s1 := Fr.trans hf hf1
        refine w_callV (As := [.ref 53, .int (nI (r + 1))]) (rest := []) rfl rfl rfl (Nat.le_of_ble_eq_true rfl) (Nat.le_of_ble_eq_true rfl) (by first | exact Or.inl ⟨rfl, rfl⟩ | exact Or.inr ⟨rfl, rfl⟩) hc1 ?_
        refine w_if_eq rfl (fun h3 => ?_) (fun h3 => ?_)
        · replace h3 := pI_eq0.mp h3
          refine w_blk 1 (pc' := 34) (ls' := [some (.ref 53), some (.int (nI r))]) (sk' := [.int (nI r)]) (st' := s1) (fun _ h => h) ?_
          exact w_iret rfl rfl rfl (hq r s1 ⟨⟨by omega, hall, fun hh => absurd hh (by omega), fun _ => Or.inr h3⟩, hf2⟩)
        · replace h3 := pI_ne.mp h3
          refine w_blk 1 (pc' := 30) (ls' := [some (.ref 53), some (.int ((nI r) + 1))]) (sk' := []) (st' := s1) (fun _ h => h) ?_
          rw [show ((nI r) + 1) = nI (r + 1) from nI_add r 1]
          refine w_blk 1 (pc' := 2) (ls' := [some (.ref 53), some (.int (nI (r + 1)))]) (sk' := []) (st' := s1) (fun _ h => h) ?_
          exact ih (r + 1) s1 (by omega) (fun q h8 h9 => if hq9 : q = r + 1 then (by rw [hq9]; exact h3) else hall q h8 (by omega)) (fun hh => absurd hh (by omega)) hf2
set_option maxRecDepth 20000 in
/-- longest() -/
theorem m_longest (d : Nat) (n : Nat → Nat) (c : Nat → Nat → Nat) (v : Nat → Int32) (u : Nat → Nat)  (st : mSt) (hR : MR st n c) (hM : NM0 st v u) (hB : CB n c) (hU : ∀ j, 3 ≤ j → j < 12 → u j < 256) : ∃ (R : Nat) (s : mSt), mMC mT (d + 6) 162 [.ref 53] st (some (.int (nI R))) s ∧ LGR (fun q => hallB (EN n c u) q (n 0)) (n 0) R ∧ Fr [67, 68, 69, 70, 71, 72, 73, 74] st s := by
  suffices H : ∀ Q : Option Value → mSt → Prop, (∀ (R : Nat) (s : mSt), (LGR (fun q => hallB (EN n c u) q (n 0)) (n 0) R ∧ Fr [67, 68, 69, 70, 71, 72, 73, 74] st s) → Q (some (.int (nI R))) s) → mW (mMC mT (d + 5)) (0, fun _ => 0) (mAtL P_X10_longest) (some .int) Q 0 [some (.ref 53)] [] st by
    obtain ⟨_, _, ⟨R, s, rfl, rfl, hp⟩, hw⟩ := mW_ex (H (fun vv tt => ∃ (R : Nat) (s : mSt),  vv = some (.int (nI R)) ∧ s = tt ∧ LGR (fun q => hallB (EN n c u) q (n 0)) (n 0) R ∧ Fr [67, 68, 69, 70, 71, 72, 73, 74] st s) (fun R s hp => ⟨R, s, rfl, rfl, hp⟩))
    exact ⟨R, s, mI_X10_longest (d := d + 5) (Nat.le_of_ble_eq_true rfl) hw, hp⟩
  intro Q hq
  refine w_blk 1 (pc' := 1) (ls' := [some (.ref 53)]) (sk' := [.ref 53]) (st' := st) (fun _ h => h) ?_
  obtain ⟨s1, hc1, hE1, hf1⟩ := m_findEdges (d + 3) n c v u st hR hM hB hU
  have hR1 : MR s1 n c := MR_fr hf1 (by decide) hR
  obtain ⟨R, s2, hc2, hlg, hf2⟩ := m_longestBy (d + 0) n c (EN n c u) s1 hR1 hB hE1 (fun d s _ _ h => EN_in h)
  refine w_callV (As := [.ref 53]) (rest := []) rfl rfl rfl (Nat.le_of_ble_eq_true rfl) (Nat.le_of_ble_eq_true rfl) (by first | exact Or.inl ⟨rfl, rfl⟩ | exact Or.inr ⟨rfl, rfl⟩) hc1 ?_
  refine w_blk 1 (pc' := 5) (ls' := [some (.ref 53)]) (sk' := [.ref 53]) (st' := s1) (fun _ h => h) ?_
  refine w_callV (As := [.ref 53]) (rest := []) rfl rfl rfl (Nat.le_of_ble_eq_true rfl) (Nat.le_of_ble_eq_true rfl) (by first | exact Or.inl ⟨rfl, rfl⟩ | exact Or.inr ⟨rfl, rfl⟩) hc2 ?_
  exact w_iret rfl rfl rfl (hq R s2 ⟨hlg, Fr.trans (Fr.mono hf1 (by decide)) (Fr.mono hf2 (by decide))⟩)
def sp_most (n : Nat → Nat) (c : Nat → Nat → Nat) (u : Nat → Nat) (r : Int32) : Int32 := if 1 ≤ r ∧ r ≤ 6 then iI (mst (EN n c u) (wF n c false) r.toNatClampNeg (n 0) 48 (fun _ _ => false)) else -1
theorem most_step {E T : EdT} {w : Nat → Nat → Int} {r nd : Nat} {p : Nat → Int} {G : Int} (hP : PV E T w r nd p G) (hw : WB w) {f : Nat} (hf : bstO (fin_ T E w r nd) T r 8 = some f) : 0 < (fin_ T E w r nd).1 (6 + f) ∧ (∃ p' G', PV E (flq (fin_ T E w r nd).2 6 f T) w r nd p' G') ∧ sm (dD (flq (fin_ T E w r nd).2 6 f T)) 6 = sm (dD T) 6 + 1 := by
  obtain ⟨hf8, hpos, n, hn, hc, hP2, d0, -, hd06, -, hdD, -⟩ := (flow_step hP hw).2 f hf
  rw [flq_fl n 6 f T (by omega) hc]
  refine ⟨hpos, hP2, ?_⟩
  rw [sm_congr (g := fun d => dD T d + (if d = d0 then 1 else 0)) 6 hdD, sm_add, sm_one 6 d0 hd06]
set_option maxRecDepth 20000 in
/-- most(r) -/
theorem m_most (d : Nat) (n : Nat → Nat) (c : Nat → Nat → Nat) (v : Nat → Int32) (u : Nat → Nat) (x : Int32) (st : mSt) (hR : MR st n c) (hM : NM0 st v u) (hB : CB n c) (hU : ∀ j, 3 ≤ j → j < 12 → u j < 256) : ∃ (s : mSt), mMC mT (d + 5) 166 [.ref 53, .int x] st (some (.int (sp_most n c u x))) s ∧ Fr [67, 68, 69, 70, 71, 72, 73, 74] st s := by
  suffices H : ∀ Q : Option Value → mSt → Prop, (∀ (s : mSt), Fr [67, 68, 69, 70, 71, 72, 73, 74] st s → Q (some (.int (sp_most n c u x))) s) → mW (mMC mT (d + 4)) (0, fun _ => 0) (mAtL P_X10_most) (some .int) Q 0 [some (.ref 53), some (.int x), none, none] [] st by
    obtain ⟨_, _, ⟨s, rfl, rfl, hp⟩, hw⟩ := mW_ex (H (fun vv tt => ∃ (s : mSt),  vv = some (.int (sp_most n c u x)) ∧ s = tt ∧ Fr [67, 68, 69, 70, 71, 72, 73, 74] st s) (fun s hp => ⟨s, rfl, rfl, hp⟩))
    exact ⟨s, mI_X10_most (d := d + 4) (Nat.le_of_ble_eq_true rfl) hw, hp⟩
  intro Q hq
  obtain ⟨hb0, hb1, hb2, hbd, hbs, hby⟩ := id hB
  refine w_blk 3 (pc' := 4) (ls' := [some (.ref 53), some (.int x), none, none]) (sk' := [.int 6, .int 1, .int x]) (st' := st) (fun _ h => h) ?_
  refine w_callS (As := [.int x, .int 1, .int 6]) (rest := []) rfl rfl rfl (Nat.le_of_ble_eq_true rfl) (Nat.le_of_ble_eq_true rfl) (m_in (d + 3) x 1 6 st) ?_
  refine w_if_ne rfl (fun h1 => ?_) (fun h1 => ?_)
  · replace h1 := pI_ne.mp h1
    have hok : 1 ≤ x ∧ x ≤ 6 := h1
    obtain ⟨r, hr1, hr6, rfl⟩ := nI_within (a := 1) (b := 6) h1 (by decide) (by decide)
    have ec := nI_clamp (show r < 2 ^ 31 by omega)
    rw [show sp_most n c u (nI r) = iI (mst (EN n c u) (wF n c false) r (n 0) 48 (fun _ _ => false)) from (if_pos hok).trans (by rw [ec])] at hq
    refine w_blk 1 (pc' := 13) (ls' := [some (.ref 53), some (.int (nI r)), none, none]) (sk' := [.ref 53]) (st' := st) (fun _ h => h) ?_
    obtain ⟨s1, hc1, hE1, hf1⟩ := m_findEdges (d + 2) n c v u st hR hM hB hU
    obtain ⟨s2, hc2, hT2, hH2, hf2⟩ := m_begin (d + 3) s1
    obtain ⟨E, hEe⟩ : ∃ E, E = EN n c u := ⟨_, rfl⟩
    have hEn : ∀ d s, d < 6 → s < 8 → E d s = true → d < n 0 ∧ s < n 1 := fun d s _ _ h => EN_in (by rw [hEe] at h; exact h)
    rw [← hEe] at hE1 hq
    have hww := wF_WB hB false
    have hf12 : Fr [67, 68, 69, 70, 71, 72, 73, 74] st s2 := Fr.trans (Fr.mono hf1 (by decide)) (Fr.mono hf2 (by decide))
    have hE2 : MEd s2 E := MEd_e (hf2.1 67 (by decide)) hE1
    refine w_callV (As := [.ref 53]) (rest := []) rfl rfl rfl (Nat.le_of_ble_eq_true rfl) (Nat.le_of_ble_eq_true rfl) (by first | exact Or.inl ⟨rfl, rfl⟩ | exact Or.inr ⟨rfl, rfl⟩) hc1 ?_
    refine w_blk 1 (pc' := 17) (ls' := [some (.ref 53), some (.int (nI r)), none, none]) (sk' := [.ref 53]) (st' := s1) (fun _ h => h) ?_
    refine w_callV (As := [.ref 53]) (rest := []) rfl rfl rfl (Nat.le_of_ble_eq_true rfl) (Nat.le_of_ble_eq_true rfl) (by first | exact Or.inl ⟨rfl, rfl⟩ | exact Or.inr ⟨rfl, rfl⟩) hc2 ?_
    refine w_blk 2 (pc' := 22) (ls' := [some (.ref 53), some (.int (nI r)), some (.int 0), none]) (sk' := []) (st' := s2) (fun _ h => h) ?_
    have key : ∀ (f : Nat) (T : EdT) (s3 : mSt) (sum : Int32) (p : Nat → Int) (G : Int) (l3 : Option Value), 48 ≤ sm (dD T) 6 + f → PV E T (wF n c false) r (n 0) p G → MTk s3 T → MHd s3 T → MEd s3 E → Fr [67, 68, 69, 70, 71, 72, 73, 74] st s3 → sum + iI (mst E (wF n c false) r (n 0) f T) = iI (mst E (wF n c false) r (n 0) 48 (fun _ _ => false)) → ∀ (pcx : Nat), (pcx = 22 ∨ pcx = 37) → mW (mMC mT (d + 4)) (0, fun _ => 0) (mAtL P_X10_most) (some .int) Q pcx [some (.ref 53), some (.int (nI r)), some (.int sum), l3] [] s3 := by
      intro f
      induction f with
      | zero =>
        intro T s3 sum p G l3 hm hP hT hH hE3 hf hsum pcx hpc
        have hR3 : MR s3 n c := MR_fr hf (by decide) hR
        have h48 := sum_48 T
        obtain ⟨v1, s4, hc4, hn4, hs4, hf4⟩ := m_augment0 (d + 1) n c E T r p G s3 hR3 hB hE3 hT hH hEn (fun d s hd hs ht => (hP.1 d s hd hs ht).1) hP (by omega)
        have hf5 : Fr [67, 68, 69, 70, 71, 72, 73, 74] st s4 := Fr.trans hf (Fr.mono hf4 (by decide))
        suffices tail : mW (mMC mT (d + 4)) (0, fun _ => 0) (mAtL P_X10_most) (some .int) Q 29 [some (.ref 53), some (.int (nI r)), some (.int sum), some (.int v1)] [] s4 by
          rcases hpc with rfl | rfl
          · refine w_blk 3 (pc' := 25) (ls' := [some (.ref 53), some (.int (nI r)), some (.int sum), l3]) (sk' := [.int 0, .int (nI r), .ref 53]) (st' := s3) (fun _ h => h) ?_
            refine w_callV (As := [.ref 53, .int (nI r), .int 0]) (rest := []) rfl rfl rfl (Nat.le_of_ble_eq_true rfl) (Nat.le_of_ble_eq_true rfl) (by first | exact Or.inl ⟨rfl, rfl⟩ | exact Or.inr ⟨rfl, rfl⟩) hc4 ?_
            refine w_blk 1 (pc' := 29) (ls' := [some (.ref 53), some (.int (nI r)), some (.int sum), some (.int v1)]) (sk' := []) (st' := s4) (fun _ h => h) ?_
            exact tail
          · refine w_blk 3 (pc' := 40) (ls' := [some (.ref 53), some (.int (nI r)), some (.int sum), l3]) (sk' := [.int 0, .int (nI r), .ref 53]) (st' := s3) (fun _ h => h) ?_
            refine w_callV (As := [.ref 53, .int (nI r), .int 0]) (rest := []) rfl rfl rfl (Nat.le_of_ble_eq_true rfl) (Nat.le_of_ble_eq_true rfl) (by first | exact Or.inl ⟨rfl, rfl⟩ | exact Or.inr ⟨rfl, rfl⟩) hc4 ?_
            refine w_blk 2 (pc' := 29) (ls' := [some (.ref 53), some (.int (nI r)), some (.int sum), some (.int v1)]) (sk' := []) (st' := s4) (fun _ h => h) ?_
            exact tail
        rcases e : bstO (fin_ T E (wF n c false) r (n 0)) T r 8 with _ | g
        · obtain ⟨hv, -, -⟩ := hn4 e
          subst hv
          refine w_blk 1 (pc' := 30) (ls' := [some (.ref 53), some (.int (nI r)), some (.int sum), some (.int 0)]) (sk' := [.int 0]) (st' := s4) (fun _ h => h) ?_
          refine w_if_le rfl (fun _ => ?_) (fun hno => absurd (by decide) hno)
          refine w_blk 1 (pc' := 48) (ls' := [some (.ref 53), some (.int (nI r)), some (.int sum), some (.int 0)]) (sk' := [.int sum]) (st' := s4) (fun _ h => h) ?_
          rw [mst_none e] at hsum
          exact w_iret rfl rfl rfl (by have hh := hq s4; rw [← hsum, show sum + iI 0 = sum from by rw [← iI_0, Int32.add_zero]] at hh; exact hh hf5)
        · obtain ⟨hv, hT5, hH5⟩ := hs4 g e
          obtain ⟨hpos, ⟨p5, G5, hP5⟩, hsm⟩ := most_step hP hww e
          have h49 := sum_48 (flq (fin_ T E (wF n c false) r (n 0)).2 6 g T)
          exact absurd h49 (by omega)
      | succ f ih =>
        intro T s3 sum p G l3 hm hP hT hH hE3 hf hsum pcx hpc
        have hR3 : MR s3 n c := MR_fr hf (by decide) hR
        have h48 := sum_48 T
        obtain ⟨v1, s4, hc4, hn4, hs4, hf4⟩ := m_augment0 (d + 1) n c E T r p G s3 hR3 hB hE3 hT hH hEn (fun d s hd hs ht => (hP.1 d s hd hs ht).1) hP (by omega)
        have hf5 : Fr [67, 68, 69, 70, 71, 72, 73, 74] st s4 := Fr.trans hf (Fr.mono hf4 (by decide))
        suffices tail : mW (mMC mT (d + 4)) (0, fun _ => 0) (mAtL P_X10_most) (some .int) Q 29 [some (.ref 53), some (.int (nI r)), some (.int sum), some (.int v1)] [] s4 by
          rcases hpc with rfl | rfl
          · refine w_blk 3 (pc' := 25) (ls' := [some (.ref 53), some (.int (nI r)), some (.int sum), l3]) (sk' := [.int 0, .int (nI r), .ref 53]) (st' := s3) (fun _ h => h) ?_
            refine w_callV (As := [.ref 53, .int (nI r), .int 0]) (rest := []) rfl rfl rfl (Nat.le_of_ble_eq_true rfl) (Nat.le_of_ble_eq_true rfl) (by first | exact Or.inl ⟨rfl, rfl⟩ | exact Or.inr ⟨rfl, rfl⟩) hc4 ?_
            refine w_blk 1 (pc' := 29) (ls' := [some (.ref 53), some (.int (nI r)), some (.int sum), some (.int v1)]) (sk' := []) (st' := s4) (fun _ h => h) ?_
            exact tail
          · refine w_blk 3 (pc' := 40) (ls' := [some (.ref 53), some (.int (nI r)), some (.int sum), l3]) (sk' := [.int 0, .int (nI r), .ref 53]) (st' := s3) (fun _ h => h) ?_
            refine w_callV (As := [.ref 53, .int (nI r), .int 0]) (rest := []) rfl rfl rfl (Nat.le_of_ble_eq_true rfl) (Nat.le_of_ble_eq_true rfl) (by first | exact Or.inl ⟨rfl, rfl⟩ | exact Or.inr ⟨rfl, rfl⟩) hc4 ?_
            refine w_blk 2 (pc' := 29) (ls' := [some (.ref 53), some (.int (nI r)), some (.int sum), some (.int v1)]) (sk' := []) (st' := s4) (fun _ h => h) ?_
            exact tail
        rcases e : bstO (fin_ T E (wF n c false) r (n 0)) T r 8 with _ | g
        · obtain ⟨hv, -, -⟩ := hn4 e
          subst hv
          refine w_blk 1 (pc' := 30) (ls' := [some (.ref 53), some (.int (nI r)), some (.int sum), some (.int 0)]) (sk' := [.int 0]) (st' := s4) (fun _ h => h) ?_
          refine w_if_le rfl (fun _ => ?_) (fun hno => absurd (by decide) hno)
          refine w_blk 1 (pc' := 48) (ls' := [some (.ref 53), some (.int (nI r)), some (.int sum), some (.int 0)]) (sk' := [.int sum]) (st' := s4) (fun _ h => h) ?_
          rw [mst_none e] at hsum
          exact w_iret rfl rfl rfl (by have hh := hq s4; rw [← hsum, show sum + iI 0 = sum from by rw [← iI_0, Int32.add_zero]] at hh; exact hh hf5)
        · obtain ⟨hv, hT5, hH5⟩ := hs4 g e
          obtain ⟨hpos, ⟨p5, G5, hP5⟩, hsm⟩ := most_step hP hww e
          have hlb := lab_bd (T := T) (E := E) hww (r := r) (nd := n 0) (6 + g)
          have hNO : NOi = -1000000 := rfl
          subst hv
          refine w_blk 1 (pc' := 30) (ls' := [some (.ref 53), some (.int (nI r)), some (.int sum), some (.int (iI ((fin_ T E (wF n c false) r (n 0)).1 (6 + g))))]) (sk' := [.int (iI ((fin_ T E (wF n c false) r (n 0)).1 (6 + g)))]) (st' := s4) (fun _ h => h) ?_
          refine w_if_le rfl (fun h2 => ?_) (fun h2 => ?_)
          · replace h2 : (fin_ T E (wF n c false) r (n 0)).1 (6 + g) ≤ (0 : Int) := by rw [iI_0] at h2; exact (iI_le (a := (fin_ T E (wF n c false) r (n 0)).1 (6 + g)) (b := (0 : Int)) (by omega) (by omega) (by omega) (by omega)).mp h2
            exact absurd h2 (by omega)
          · replace h2 : ¬ ((fin_ T E (wF n c false) r (n 0)).1 (6 + g) ≤ (0 : Int)) := fun hh => h2 (by rw [iI_0]; exact (iI_le (a := (fin_ T E (wF n c false) r (n 0)).1 (6 + g)) (b := (0 : Int)) (by omega) (by omega) (by omega) (by omega)).mpr hh)
            refine w_blk 4 (pc' := 37) (ls' := [some (.ref 53), some (.int (nI r)), some (.int (sum + (iI ((fin_ T E (wF n c false) r (n 0)).1 (6 + g))))), some (.int (iI ((fin_ T E (wF n c false) r (n 0)).1 (6 + g))))]) (sk' := []) (st' := s4) (fun _ h => h) ?_
            exact ih _ s4 _ p5 G5 _ (by rw [hsm]; omega) hP5 hT5 hH5 (MEd_e (hf4.1 67 (by decide)) hE3) hf5 (by rw [← hsum, mst_some e, Int32.add_assoc, iI_add]) 37 (Or.inr rfl)
    exact key 48 _ s2 0 pP 1000 none (by omega) (PV_none hww) hT2 hH2 hE2 hf12 (by rw [Int32.zero_add]) 22 (Or.inl rfl)
  · replace h1 := pI_eq0.mp (Decidable.not_not.mp h1)
    refine w_blk 1 (pc' := 11) (ls' := [some (.ref 53), some (.int x), none, none]) (sk' := [.int (-1)]) (st' := st) (fun _ h => h) ?_
    exact w_iret rfl rfl rfl (by have hh := hq st; rw [show sp_most n c u x = -1 from if_neg h1] at hh; exact hh Fr.rf)
