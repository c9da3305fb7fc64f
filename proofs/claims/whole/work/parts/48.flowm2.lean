/-! FLOWS: the model, throw by throw -/
theorem b_no {x : LabT} {T : EdT} {r k : Nat} (h : ¬ (dS T k < r ∧ 0 < x.1 (6 + k))) : bstO x T r (k + 1) = bstO x T r k := if_neg h
theorem b_new {x : LabT} {T : EdT} {r k : Nat} (h : dS T k < r ∧ 0 < x.1 (6 + k)) (e : bstO x T r k = none) : bstO x T r (k + 1) = some k := by
  have hd : bstO x T r (k + 1) = if dS T k < r ∧ 0 < x.1 (6 + k) then (match bstO x T r k with | none => some k | some f => if x.1 (6 + f) < x.1 (6 + k) then some k else some f) else bstO x T r k := rfl
  rw [hd, if_pos h, e]
theorem b_les {x : LabT} {T : EdT} {r k f : Nat} (h : dS T k < r ∧ 0 < x.1 (6 + k)) (e : bstO x T r k = some f) (hu : x.1 (6 + f) < x.1 (6 + k)) : bstO x T r (k + 1) = some k := by
  have hd : bstO x T r (k + 1) = if dS T k < r ∧ 0 < x.1 (6 + k) then (match bstO x T r k with | none => some k | some f => if x.1 (6 + f) < x.1 (6 + k) then some k else some f) else bstO x T r k := rfl
  rw [hd, if_pos h, e]
  exact if_pos hu
theorem b_ge {x : LabT} {T : EdT} {r k f : Nat} (h : dS T k < r ∧ 0 < x.1 (6 + k)) (e : bstO x T r k = some f) (hu : ¬ x.1 (6 + f) < x.1 (6 + k)) : bstO x T r (k + 1) = some f := by
  have hd : bstO x T r (k + 1) = if dS T k < r ∧ 0 < x.1 (6 + k) then (match bstO x T r k with | none => some k | some f => if x.1 (6 + f) < x.1 (6 + k) then some k else some f) else bstO x T r k := rfl
  rw [hd, if_pos h, e]
  exact if_neg hu
theorem MTk_w {st : mSt} {T : EdT} (h : MTk st T) {d s : Nat} {b : Bool} {v : Int32} (hs : s < 8) (hv : v = pI (b = true)) : MTk (mU st.1 68 (8 * d + s) v, st.2) (stT T d s b) := by
  intro k hk
  show mU st.1 68 (8 * d + s) v 68 k = _
  by_cases e : k = 8 * d + s
  · subst e
    rw [show (8 * d + s) / 8 = d by omega, show (8 * d + s) % 8 = s by omega, stT_s]
    exact mU_at.trans hv
  · rw [stT_n (fun hh => e (by omega))]
    exact (mU_row e).trans (h k hk)
theorem lab_bd {T E : EdT} {w : Nat → Nat → Int} (hw : WB w) {r nd : Nat} (v : Nat) : (fin_ T E w r nd).1 v = NOi ∨ (-800000 ≤ (fin_ T E w r nd).1 v ∧ (fin_ T E w r nd).1 v ≤ 800000) := by
  have h := LBD_tn (T := T) (E := E) hw (r := r) (nd := nd) 13 v
  have e : fin_ T E w r nd = tn (fA T E w) (ini T r nd) 13 := rfl
  rw [e]
  omega
theorem eG_d {v : Nat} (h : v < 6) : eG v = nI v := if_neg (by omega)
theorem eF_s {s : Nat} (h : s < 8) : eF (6 + s) = nI s := by
  unfold eF
  rw [if_neg (by omega), Nat.add_sub_cancel_left]
def hallB (E : EdT) (r nd : Nat) : Bool := decide (∀ m, m < 2 ^ nd → r * popm m ≤ sm (fun s => min r (cnt E m s)) 8)
theorem hallB_iff {E : EdT} {r nd : Nat} : hallB E r nd = true ↔ hall E r nd := decide_eq_true_iff
theorem full_iff {T : EdT} {r nd : Nat} (hnd : nd ≤ 6) (hD : ∀ d, d < 6 → dD T d ≤ r) (hZ : ∀ d, d < 6 → nd ≤ d → dD T d = 0) : (sm (dD T) 6 = r * nd → ∀ d, d < nd → dD T d = r) ∧ (sm (dD T) 6 ≠ r * nd → ∃ d, d < nd ∧ dD T d < r) := by
  have e : ∀ a, sm (fun d => if d < nd then r else 0) a = r * min a nd := by
    intro a
    induction a with
    | zero => rw [Nat.zero_min, Nat.mul_zero]; rfl
    | succ a ih =>
      show sm (fun d => if d < nd then r else 0) a + (if a < nd then r else 0) = _
      rw [ih]
      by_cases h : a < nd
      · rw [if_pos h, show min a nd = a by omega, show min (a + 1) nd = a + 1 by omega, Nat.mul_succ]
      · rw [if_neg h, show min a nd = nd by omega, show min (a + 1) nd = nd by omega, Nat.add_zero]
  have e6 := e 6
  rw [show min 6 nd = nd by omega] at e6
  have hle : ∀ d, d < 6 → dD T d ≤ (if d < nd then r else 0) := fun d hd => by
    by_cases h : d < nd
    · rw [if_pos h]
      exact hD d hd
    · rw [if_neg h, hZ d hd (by omega)]
      exact Nat.le_refl _
  have hlt := sm_lt 6 hle
  have hs := sm_le 6 hle
  rw [e6] at hlt hs
  constructor
  · intro h d hd
    by_cases e9 : dD T d = r
    · exact e9
    · have := hlt.mpr ⟨d, by omega, by
        rw [if_pos hd]
        have := hD d (by omega)
        omega⟩
      have h2 : sm (fun k => dD T k) 6 = sm (dD T) 6 := rfl
      omega
  · intro h
    have h2 : sm (fun k => dD T k) 6 = sm (dD T) 6 := rfl
    obtain ⟨d, hd, h3⟩ := hlt.mp (by omega)
    by_cases h4 : d < nd
    · rw [if_pos h4] at h3
      exact ⟨d, h4, h3⟩
    · rw [if_neg h4] at h3
      exact absurd h3 (Nat.not_lt_zero _)
def LGR (H : Nat → Bool) (nd R : Nat) : Prop := R ≤ 8 ∧ (∀ q, 1 ≤ q → q ≤ R → H q = true) ∧ (nd = 0 → R = 0) ∧ (0 < nd → R = 8 ∨ ¬ H (R + 1) = true)
theorem LGR_un {H : Nat → Bool} {nd R R' : Nat} (h : LGR H nd R) (h' : LGR H nd R') : R = R' := by
  obtain ⟨a1, a2, a3, a4⟩ := h
  obtain ⟨b1, b2, b3, b4⟩ := h'
  by_cases h0 : nd = 0
  · rw [a3 h0, b3 h0]
  · have a5 := a4 (by omega)
    have b5 := b4 (by omega)
    by_cases e1 : R < R'
    · have := b2 (R + 1) (by omega) (by omega)
      rcases a5 with a5 | a5
      · omega
      · exact absurd this a5
    · by_cases e2 : R' < R
      · have := a2 (R' + 1) (by omega) (by omega)
        rcases b5 with b5 | b5
        · omega
        · exact absurd this b5
      · omega
set_option maxRecDepth 20000 in
/-- augment -/
theorem m_augment1 (d : Nat) (n : Nat → Nat) (c : Nat → Nat → Nat) (E T : EdT) (r : Nat) (p : Nat → Int) (G : Int) (st : mSt) (hR : MR st n c) (hB : CB n c) (hE : MEd st E) (hT : MTk st T) (hH : MHd st T) (hEn : ∀ d s, d < 6 → s < 8 → E d s = true → d < n 0 ∧ s < n 1) (hTE : ∀ d s, d < 6 → s < 8 → T d s = true → E d s = true) (hPV : PV E T (wF n c true) r (n 0) p G) (hr : r ≤ 8) : ∃ (v : Int32) (s : mSt), mMC mT (d + 3) 159 [.ref 53, .int (nI r), .int 1] st (some (.int v)) s ∧ ((bstO (fin_ T E (wF n c true) r (n 0)) T r 8 = none → v = 0 ∧ MTk s T ∧ MHd s T) ∧ (∀ f, bstO (fin_ T E (wF n c true) r (n 0)) T r 8 = some f → v = iI ((fin_ T E (wF n c true) r (n 0)).1 (6 + f)) ∧ MTk s (flq (fin_ T E (wF n c true) r (n 0)).2 6 f T) ∧ MHd s (flq (fin_ T E (wF n c true) r (n 0)).2 6 f T)) ∧ Fr [68, 69, 70, 71, 72, 73, 74] st s) := by
  suffices H : ∀ Q : Option Value → mSt → Prop, (∀ (v : Int32) (s : mSt), (((bstO (fin_ T E (wF n c true) r (n 0)) T r 8 = none → v = 0 ∧ MTk s T ∧ MHd s T) ∧ (∀ f, bstO (fin_ T E (wF n c true) r (n 0)) T r 8 = some f → v = iI ((fin_ T E (wF n c true) r (n 0)).1 (6 + f)) ∧ MTk s (flq (fin_ T E (wF n c true) r (n 0)).2 6 f T) ∧ MHd s (flq (fin_ T E (wF n c true) r (n 0)).2 6 f T)) ∧ Fr [68, 69, 70, 71, 72, 73, 74] st s)) → Q (some (.int v)) s) → mW (mMC mT (d + 2)) (0, fun _ => 0) (mAtL P_X10_augment) (some .int) Q 0 [some (.ref 53), some (.int (nI r)), some (.int 1), none, none, none, none] [] st by
    obtain ⟨_, _, ⟨v, s, rfl, rfl, hp⟩, hw⟩ := mW_ex (H (fun vv tt => ∃ (v : Int32) (s : mSt),  vv = some (.int v) ∧ s = tt ∧ ((bstO (fin_ T E (wF n c true) r (n 0)) T r 8 = none → v = 0 ∧ MTk s T ∧ MHd s T) ∧ (∀ f, bstO (fin_ T E (wF n c true) r (n 0)) T r 8 = some f → v = iI ((fin_ T E (wF n c true) r (n 0)).1 (6 + f)) ∧ MTk s (flq (fin_ T E (wF n c true) r (n 0)).2 6 f T) ∧ MHd s (flq (fin_ T E (wF n c true) r (n 0)).2 6 f T)) ∧ Fr [68, 69, 70, 71, 72, 73, 74] st s)) (fun v s hp => ⟨v, s, rfl, rfl, hp⟩))
    exact ⟨v, s, mI_X10_augment (d := d + 2) (Nat.le_of_ble_eq_true rfl) hw, hp⟩
  intro Q hq
  obtain ⟨hb0, hb1, hb2, hbd, hbs, hby⟩ := id hB
  have hNO : NOi = -1000000 := rfl
  have hww := wF_WB hB true
  obtain ⟨s1, hc1, hL, hf1⟩ := m_findWays1 (d + 0) n c E T r p G st hR hB hE hT hH hEn hTE hPV hr
  obtain ⟨hst0, hst1⟩ := flow_step hPV hww
  obtain ⟨t, hF⟩ := fin_FIX hPV hww
  have hlab := lab_bd (T := T) (E := E) hww (r := r) (nd := n 0)
  obtain ⟨x, hxe⟩ : ∃ x, x = (fin_ T E (wF n c true) r (n 0)) := ⟨_, rfl⟩
  rw [← hxe] at hL hst0 hst1 hF hlab hq
  have hR1 : MR s1 n c := MR_fr hf1 (by decide) hR
  have hT1 : MTk s1 T := MTk_e (hf1.1 68 (by decide)) hT
  have hH1 : MHd s1 T := MHd_e (hf1.1 69 (by decide)) (hf1.1 70 (by decide)) hH
  have hS8 := hPV.2.2.2.2.2.2.2.1
  refine w_blk 3 (pc' := 3) (ls' := [some (.ref 53), some (.int (nI r)), some (.int 1), none, none, none, none]) (sk' := [.int 1, .int (nI r), .ref 53]) (st' := st) (fun _ h => h) ?_
  refine w_callV (As := [.ref 53, .int (nI r), .int 1]) (rest := []) rfl rfl rfl (Nat.le_of_ble_eq_true rfl) (Nat.le_of_ble_eq_true rfl) (by first | exact Or.inl ⟨rfl, rfl⟩ | exact Or.inr ⟨rfl, rfl⟩) hc1 ?_
  refine w_blk 4 (pc' := 12) (ls' := [some (.ref 53), some (.int (nI r)), some (.int 1), some (.int (-9)), some (.int 0), none, none]) (sk' := []) (st' := s1) (fun _ h => h) ?_
  have fin : ∀ (l5 l6 : Option Value), mW (mMC mT (d + 2)) (0, fun _ => 0) (mAtL P_X10_augment) (some .int) Q 71 [some (.ref 53), some (.int (nI r)), some (.int 1), some (.int (eO (bstO x T r 8))), some (.int (nI 8)), l5, l6] [] s1 := by
    intro l5 l6
    rcases e : bstO x T r 8 with _ | f
    · show mW (mMC mT (d + 2)) (0, fun _ => 0) (mAtL P_X10_augment) (some .int) Q 71 [some (.ref 53), some (.int (nI r)), some (.int 1), some (.int (-9)), some (.int (nI 8)), l5, l6] [] s1
      refine w_blk 2 (pc' := 74) (ls' := [some (.ref 53), some (.int (nI r)), some (.int 1), some (.int (-9)), some (.int (nI 8)), l5, l6]) (sk' := [.int (-9), .int (-9)]) (st' := s1) (fun _ h => h) ?_
      refine w_cmp_ne rfl (fun hno => absurd hno (fun hh => hh rfl)) (fun _ => ?_)
      refine w_blk 1 (pc' := 78) (ls' := [some (.ref 53), some (.int (nI r)), some (.int 1), some (.int (-9)), some (.int (nI 8)), l5, l6]) (sk' := [.int 0]) (st' := s1) (fun _ h => h) ?_
      exact w_iret rfl rfl rfl (hq 0 s1 ⟨fun _ => ⟨rfl, hT1, hH1⟩, fun f hf => (by rw [e] at hf; exact nomatch hf), Fr.mono hf1 (by decide)⟩)
    · obtain ⟨hf8, hpos, cn, hcn, hch, ⟨p', G', hP2⟩, d0, hd0, hd06, hsr, hdD, hdS⟩ := hst1 f e
      have hre := NOi_neg hpos
      have hlf := hlab (6 + f)
      have hfs := FIX_S hF hf8 hre
      have hfd := hfs.1
      have hSf := hS8 f hf8
      have efl := flq_fl cn 6 f T (by omega) hch
      obtain ⟨T2, hT2⟩ : ∃ T2, fl x.2 cn f T = T2 := ⟨_, rfl⟩
      rw [hT2] at hdD hdS efl
      show mW (mMC mT (d + 2)) (0, fun _ => 0) (mAtL P_X10_augment) (some .int) Q 71 [some (.ref 53), some (.int (nI r)), some (.int 1), some (.int (nI f)), some (.int (nI 8)), l5, l6] [] s1
      refine w_blk 2 (pc' := 74) (ls' := [some (.ref 53), some (.int (nI r)), some (.int 1), some (.int (nI f)), some (.int (nI 8)), l5, l6]) (sk' := [.int (-9), .int (nI f)]) (st' := s1) (fun _ h => h) ?_
      refine w_cmp_ne rfl (fun _ => ?_) (fun hno => absurd (fun hh => absurd (congrArg Int32.toInt hh) (by rw [nI_toInt (by omega), show (-9 : Int32).toInt = -9 from rfl]; omega)) hno)
      refine w_blk 3 (pc' := 84) (ls' := [some (.ref 53), some (.int (nI r)), some (.int 1), some (.int (nI f)), some (.int (nI 8)), l5, l6]) (sk' := [.int (nI f), .ref 72]) (st' := s1) (fun _ h => h) ?_
      refine w_iald rfl rfl (vp_in_nI (n := f) (N := 8) (by omega) (by decide)) ?_
      rw [nI_clamp (show f < 2 ^ 31 by omega)]
      rw [(hL.2 f (by omega)).1]
      refine w_blk 5 (pc' := 93) (ls' := [some (.ref 53), some (.int (nI r)), some (.int 1), some (.int (nI f)), some (.int (iI (x.1 (6 + f)))), l5, l6]) (sk' := [.int (nI f), .ref 70, .int (nI f), .ref 70]) (st' := s1) (fun _ h => h) ?_
      refine w_iald rfl rfl (vp_in_nI (n := f) (N := 8) (by omega) (by decide)) ?_
      rw [nI_clamp (show f < 2 ^ 31 by omega)]
      rw [hH1.2 f (by omega)]
      refine w_blk 2 (pc' := 96) (ls' := [some (.ref 53), some (.int (nI r)), some (.int 1), some (.int (nI f)), some (.int (iI (x.1 (6 + f)))), l5, l6]) (sk' := [.int ((nI (dS T f)) + 1), .int (nI f), .ref 70]) (st' := s1) (fun _ h => h) ?_
      rw [show ((nI (dS T f)) + 1) = nI ((dS T f) + 1) from nI_add (dS T f) 1]
      refine w_iast rfl rfl (vp_in_nI (n := f) (N := 8) (by omega) (by decide)) ?_
      rw [nI_clamp (show f < 2 ^ 31 by omega)]
      have hS_2 : ∀ y, y < 8 → (((mU s1.1 70 f (nI ((dS T f) + 1))), s1.2)).1 70 y = nI (dS T2 y) := (fun y hy => if ey : y = f then (by rw [hdS y hy, if_pos ey, ey]; exact mU_at (f := s1.1) (p := 70) (k := f)) else (by rw [hdS y hy, if_neg ey, Nat.add_zero]; exact (mU_row ey).trans (hH1.2 y hy)))
      have hD_3 : ∀ y, y < 6 → (((mU s1.1 70 f (nI ((dS T f) + 1))), s1.2)).1 69 y = nI (dD T y) := hH1.1
      have hT_4 : MTk ((mU s1.1 70 f (nI ((dS T f) + 1))), s1.2) T := hT1
      have hL_5 : MLb ((mU s1.1 70 f (nI ((dS T f) + 1))), s1.2) x := hL
      have hF_6 : Fr [68, 69, 70, 71, 72, 73, 74] st ((mU s1.1 70 f (nI ((dS T f) + 1))), s1.2) := (Fr.trans (Fr.mono hf1 (by decide)) (Fr.mU (by decide)))
      have hR_7 : MR ((mU s1.1 70 f (nI ((dS T f) + 1))), s1.2) n c := (MR_fr (Fr.trans (Fr.mono hf1 (by decide)) (Fr.mU (by decide)) : Fr [68, 69, 70, 71, 72, 73, 74] st _) (by decide) hR)
      generalize ((mU s1.1 70 f (nI ((dS T f) + 1))), s1.2) = s1 at hS_2 hD_3 hT_4 hL_5 hF_6 hR_7 ⊢
      have chain : ∀ (m s' : Nat) (T1 : EdT) (s2 : mSt), CH x.2 m s' → s' < 8 → x.1 (6 + s') ≠ NOi → fl x.2 m s' T1 = T2 → endD x.2 m s' = d0 → MTk s2 (stT T1 (x.2 (6 + s')) s' true) → (∀ y, y < 8 → s2.1 70 y = nI (dS T2 y)) → (∀ y, y < 6 → s2.1 69 y = nI (dD T y)) → MLb s2 x → Fr [68, 69, 70, 71, 72, 73, 74] st s2 → mW (mMC mT (d + 2)) (0, fun _ => 0) (mAtL P_X10_augment) (some .int) Q 123 [some (.ref 53), some (.int (nI r)), some (.int 1), some (.int (nI f)), some (.int (iI (x.1 (6 + f)))), some (.int (nI s')), some (.int (nI (x.2 (6 + s'))))] [] s2 := by
        intro m
        induction m with
        | zero =>
          intro s' T1 s2 hch2 hs' hr' hfl hend hT3 hS3 hD3 hL3 hF3
          obtain ⟨hfd', hdr', -⟩ := FIX_S hF hs' hr'
          have hd8 := dD_8 T (x.2 (6 + s'))
          have h99 : x.2 (x.2 (6 + s')) = 99 := hch2
          have hed : x.2 (6 + s') = d0 := hend
          refine w_blk 3 (pc' := 129) (ls' := [some (.ref 53), some (.int (nI r)), some (.int 1), some (.int (nI f)), some (.int (iI (x.1 (6 + f)))), some (.int (nI s')), some (.int (nI (x.2 (6 + s'))))]) (sk' := [.int (nI (x.2 (6 + s'))), .ref 73]) (st' := s2) (fun _ h => h) ?_
          refine w_iald rfl rfl (vp_in_nI (n := (x.2 (6 + s'))) (N := 6) (by omega) (by decide)) ?_
          rw [nI_clamp (show (x.2 (6 + s')) < 2 ^ 31 by omega)]
          rw [(hL3.1 (x.2 (6 + s')) (by omega)).2.trans (show eF (x.2 (x.2 (6 + s'))) = -9 from by rw [h99]; rfl)]
          refine w_blk 1 (pc' := 132) (ls' := [some (.ref 53), some (.int (nI r)), some (.int 1), some (.int (nI f)), some (.int (iI (x.1 (6 + f)))), some (.int (nI s')), some (.int (nI (x.2 (6 + s'))))]) (sk' := [.int (-9), .int (-9)]) (st' := s2) (fun _ h => h) ?_
          refine w_cmp_eq rfl (fun _ => ?_) (fun hno => absurd rfl hno)
          refine w_blk 4 (pc' := 191) (ls' := [some (.ref 53), some (.int (nI r)), some (.int 1), some (.int (nI f)), some (.int (iI (x.1 (6 + f)))), some (.int (nI s')), some (.int (nI (x.2 (6 + s'))))]) (sk' := [.int (nI (x.2 (6 + s'))), .ref 69, .int (nI (x.2 (6 + s'))), .ref 69]) (st' := s2) (fun _ h => h) ?_
          refine w_iald rfl rfl (vp_in_nI (n := (x.2 (6 + s'))) (N := 6) (by omega) (by decide)) ?_
          rw [nI_clamp (show (x.2 (6 + s')) < 2 ^ 31 by omega)]
          rw [hD3 (x.2 (6 + s')) (by omega)]
          refine w_blk 2 (pc' := 194) (ls' := [some (.ref 53), some (.int (nI r)), some (.int 1), some (.int (nI f)), some (.int (iI (x.1 (6 + f)))), some (.int (nI s')), some (.int (nI (x.2 (6 + s'))))]) (sk' := [.int ((nI (dD T (x.2 (6 + s')))) + 1), .int (nI (x.2 (6 + s'))), .ref 69]) (st' := s2) (fun _ h => h) ?_
          rw [show ((nI (dD T (x.2 (6 + s')))) + 1) = nI ((dD T (x.2 (6 + s'))) + 1) from nI_add (dD T (x.2 (6 + s'))) 1]
          refine w_iast rfl rfl (vp_in_nI (n := (x.2 (6 + s'))) (N := 6) (by omega) (by decide)) ?_
          rw [nI_clamp (show (x.2 (6 + s')) < 2 ^ 31 by omega)]
          refine w_blk 1 (pc' := 197) (ls' := [some (.ref 53), some (.int (nI r)), some (.int 1), some (.int (nI f)), some (.int (iI (x.1 (6 + f)))), some (.int (nI s')), some (.int (nI (x.2 (6 + s'))))]) (sk' := [.int (iI (x.1 (6 + f)))]) (st' := ((mU s2.1 69 (x.2 (6 + s')) (nI ((dD T (x.2 (6 + s'))) + 1))), s2.2)) (fun _ h => h) ?_
          exact w_iret rfl rfl rfl (hq _ _ ⟨fun hn => (by rw [e] at hn; exact nomatch hn), fun g hg => (by rw [e] at hg; obtain rfl := Option.some.inj hg; rw [efl, ← hfl]; exact ⟨rfl, hT3, ⟨fun y hy => (by rw [hfl, hdD y hy]; exact if ey : y = x.2 (6 + s') then (by rw [if_pos (ey.trans hed), ey]; exact mU_at (f := s2.1) (p := 69) (k := x.2 (6 + s'))) else (by rw [if_neg (fun e9 => ey (e9.trans hed.symm)), Nat.add_zero]; exact (mU_row ey).trans (hD3 y hy))), fun y hy => (by rw [hfl]; exact hS3 y hy)⟩⟩), Fr.trans hF3 (Fr.mU (by decide))⟩)
        | succ m ih =>
          intro s' T1 s2 hch2 hs' hr' hfl hend hT3 hS3 hD3 hL3 hF3
          obtain ⟨hfd', hdr', -⟩ := FIX_S hF hs' hr'
          have hd8 := dD_8 T (x.2 (6 + s'))
          obtain ⟨s3, hs3, hc3, hch3⟩ := hch2
          have hd3 := FIX_D hF hfd' hdr'
          have hr3 : x.1 (6 + s3) ≠ NOi := by
            rcases hd3 with ⟨-, -, h9⟩ | ⟨s4, hs4, h9, h10, -⟩
            · omega
            · obtain rfl : s3 = s4 := by omega
              exact h10
          obtain ⟨hfd3, -, -⟩ := FIX_S hF hs3 hr3
          have hfl3 : fl x.2 m s3 (stT (stT T1 (x.2 (6 + s')) s' true) (x.2 (6 + s')) s3 false) = T2 := by
            have h9 : fl x.2 m (x.2 (x.2 (6 + s')) - 6) (stT (stT T1 (x.2 (6 + s')) s' true) (x.2 (6 + s')) (x.2 (x.2 (6 + s')) - 6) false) = T2 := hfl
            rw [hc3, Nat.add_sub_cancel_left] at h9
            exact h9
          have hend3 : endD x.2 m s3 = d0 := by
            have h9 : endD x.2 m (x.2 (x.2 (6 + s')) - 6) = d0 := hend
            rw [hc3, Nat.add_sub_cancel_left] at h9
            exact h9
          refine w_blk 3 (pc' := 129) (ls' := [some (.ref 53), some (.int (nI r)), some (.int 1), some (.int (nI f)), some (.int (iI (x.1 (6 + f)))), some (.int (nI s')), some (.int (nI (x.2 (6 + s'))))]) (sk' := [.int (nI (x.2 (6 + s'))), .ref 73]) (st' := s2) (fun _ h => h) ?_
          refine w_iald rfl rfl (vp_in_nI (n := (x.2 (6 + s'))) (N := 6) (by omega) (by decide)) ?_
          rw [nI_clamp (show (x.2 (6 + s')) < 2 ^ 31 by omega)]
          rw [(hL3.1 (x.2 (6 + s')) (by omega)).2.trans (show eF (x.2 (x.2 (6 + s'))) = nI s3 from by rw [hc3]; exact eF_s hs3)]
          refine w_blk 1 (pc' := 132) (ls' := [some (.ref 53), some (.int (nI r)), some (.int 1), some (.int (nI f)), some (.int (iI (x.1 (6 + f)))), some (.int (nI s')), some (.int (nI (x.2 (6 + s'))))]) (sk' := [.int (-9), .int (nI s3)]) (st' := s2) (fun _ h => h) ?_
          refine w_cmp_eq rfl (fun hno => absurd hno (fun hh => absurd (congrArg Int32.toInt hh) (by rw [nI_toInt (by omega), show (-9 : Int32).toInt = -9 from rfl]; omega))) (fun _ => ?_)
          refine w_blk 3 (pc' := 141) (ls' := [some (.ref 53), some (.int (nI r)), some (.int 1), some (.int (nI f)), some (.int (iI (x.1 (6 + f)))), some (.int (nI s')), some (.int (nI (x.2 (6 + s'))))]) (sk' := [.int (nI (x.2 (6 + s'))), .ref 73]) (st' := s2) (fun _ h => h) ?_
          refine w_iald rfl rfl (vp_in_nI (n := (x.2 (6 + s'))) (N := 6) (by omega) (by decide)) ?_
          rw [nI_clamp (show (x.2 (6 + s')) < 2 ^ 31 by omega)]
          rw [(hL3.1 (x.2 (6 + s')) (by omega)).2.trans (show eF (x.2 (x.2 (6 + s'))) = nI s3 from by rw [hc3]; exact eF_s hs3)]
          refine w_blk 6 (pc' := 153) (ls' := [some (.ref 53), some (.int (nI r)), some (.int 1), some (.int (nI f)), some (.int (iI (x.1 (6 + f)))), some (.int (nI s3)), some (.int (nI (x.2 (6 + s'))))]) (sk' := [.int (8 * (nI (x.2 (6 + s')))), .ref 68]) (st' := s2) (fun _ h => h) ?_
          rw [show (8 * (nI (x.2 (6 + s')))) = nI (8 * (x.2 (6 + s'))) from pk_mul 8 (x.2 (6 + s'))]
          refine w_blk 2 (pc' := 156) (ls' := [some (.ref 53), some (.int (nI r)), some (.int 1), some (.int (nI f)), some (.int (iI (x.1 (6 + f)))), some (.int (nI s3)), some (.int (nI (x.2 (6 + s'))))]) (sk' := [.int ((nI (8 * (x.2 (6 + s')))) + (nI s3)), .ref 68]) (st' := s2) (fun _ h => h) ?_
          rw [show ((nI (8 * (x.2 (6 + s')))) + (nI s3)) = nI ((8 * (x.2 (6 + s'))) + s3) from nI_add (8 * (x.2 (6 + s'))) s3]
          refine w_blk 1 (pc' := 157) (ls' := [some (.ref 53), some (.int (nI r)), some (.int 1), some (.int (nI f)), some (.int (iI (x.1 (6 + f)))), some (.int (nI s3)), some (.int (nI (x.2 (6 + s'))))]) (sk' := [.int 0, .int (nI ((8 * (x.2 (6 + s'))) + s3)), .ref 68]) (st' := s2) (fun _ h => h) ?_
          refine w_bast2 rfl rfl (vp_in_nI (n := ((8 * (x.2 (6 + s'))) + s3)) (N := 48) (by omega) (by decide)) (Or.inl rfl) ?_
          rw [nI_clamp (show ((8 * (x.2 (6 + s'))) + s3) < 2 ^ 31 by omega)]
          have hT_9 : MTk ((mU s2.1 68 ((8 * (x.2 (6 + s'))) + s3) 0), s2.2) (stT (stT T1 (x.2 (6 + s')) s' true) (x.2 (6 + s')) s3 false) := (MTk_w hT3 hs3 (pI_f Bool.false_ne_true).symm)
          have hS_10 : ∀ y, y < 8 → (((mU s2.1 68 ((8 * (x.2 (6 + s'))) + s3) 0), s2.2)).1 70 y = nI (dS T2 y) := hS3
          have hD_11 : ∀ y, y < 6 → (((mU s2.1 68 ((8 * (x.2 (6 + s'))) + s3) 0), s2.2)).1 69 y = nI (dD T y) := hD3
          have hL_12 : MLb ((mU s2.1 68 ((8 * (x.2 (6 + s'))) + s3) 0), s2.2) x := hL3
          have hF_13 : Fr [68, 69, 70, 71, 72, 73, 74] st ((mU s2.1 68 ((8 * (x.2 (6 + s'))) + s3) 0), s2.2) := (Fr.trans hF3 (Fr.mU (by decide)))
          generalize ((mU s2.1 68 ((8 * (x.2 (6 + s'))) + s3) 0), s2.2) = s8 at hT_9 hS_10 hD_11 hL_12 hF_13 ⊢
          refine w_blk 3 (pc' := 164) (ls' := [some (.ref 53), some (.int (nI r)), some (.int 1), some (.int (nI f)), some (.int (iI (x.1 (6 + f)))), some (.int (nI s3)), some (.int (nI (x.2 (6 + s'))))]) (sk' := [.int (nI s3), .ref 74]) (st' := s8) (fun _ h => h) ?_
          refine w_iald rfl rfl (vp_in_nI (n := s3) (N := 8) (by omega) (by decide)) ?_
          rw [nI_clamp (show s3 < 2 ^ 31 by omega)]
          rw [(hL_12.2 s3 (by omega)).2.trans (eG_d hfd3)]
          refine w_blk 6 (pc' := 176) (ls' := [some (.ref 53), some (.int (nI r)), some (.int 1), some (.int (nI f)), some (.int (iI (x.1 (6 + f)))), some (.int (nI s3)), some (.int (nI (x.2 (6 + s3))))]) (sk' := [.int (8 * (nI (x.2 (6 + s3)))), .ref 68]) (st' := s8) (fun _ h => h) ?_
          rw [show (8 * (nI (x.2 (6 + s3)))) = nI (8 * (x.2 (6 + s3))) from pk_mul 8 (x.2 (6 + s3))]
          refine w_blk 2 (pc' := 179) (ls' := [some (.ref 53), some (.int (nI r)), some (.int 1), some (.int (nI f)), some (.int (iI (x.1 (6 + f)))), some (.int (nI s3)), some (.int (nI (x.2 (6 + s3))))]) (sk' := [.int ((nI (8 * (x.2 (6 + s3)))) + (nI s3)), .ref 68]) (st' := s8) (fun _ h => h) ?_
          rw [show ((nI (8 * (x.2 (6 + s3)))) + (nI s3)) = nI ((8 * (x.2 (6 + s3))) + s3) from nI_add (8 * (x.2 (6 + s3))) s3]
          refine w_blk 1 (pc' := 180) (ls' := [some (.ref 53), some (.int (nI r)), some (.int 1), some (.int (nI f)), some (.int (iI (x.1 (6 + f)))), some (.int (nI s3)), some (.int (nI (x.2 (6 + s3))))]) (sk' := [.int 1, .int (nI ((8 * (x.2 (6 + s3))) + s3)), .ref 68]) (st' := s8) (fun _ h => h) ?_
          refine w_bast2 rfl rfl (vp_in_nI (n := ((8 * (x.2 (6 + s3))) + s3)) (N := 48) (by omega) (by decide)) (Or.inr rfl) ?_
          rw [nI_clamp (show ((8 * (x.2 (6 + s3))) + s3) < 2 ^ 31 by omega)]
          refine w_blk 1 (pc' := 123) (ls' := [some (.ref 53), some (.int (nI r)), some (.int 1), some (.int (nI f)), some (.int (iI (x.1 (6 + f)))), some (.int (nI s3)), some (.int (nI (x.2 (6 + s3))))]) (sk' := []) (st' := ((mU s8.1 68 ((8 * (x.2 (6 + s3))) + s3) 1), s8.2)) (fun _ h => h) ?_
          exact ih s3 _ ((mU s8.1 68 ((8 * (x.2 (6 + s3))) + s3) 1), s8.2) hch3 hs3 hr3 hfl3 hend3 (MTk_w hT_9 hs3 (pI_t rfl).symm) hS_10 hD_11 hL_12 (Fr.trans hF_13 (Fr.mU (by decide)))
      refine w_blk 5 (pc' := 106) (ls' := [some (.ref 53), some (.int (nI r)), some (.int 1), some (.int (nI f)), some (.int (iI (x.1 (6 + f)))), some (.int (nI f)), l6]) (sk' := [.int (nI f), .ref 74]) (st' := s1) (fun _ h => h) ?_
      refine w_iald rfl rfl (vp_in_nI (n := f) (N := 8) (by omega) (by decide)) ?_
      rw [nI_clamp (show f < 2 ^ 31 by omega)]
      rw [(hL_5.2 f (by omega)).2.trans (eG_d hfd)]
      refine w_blk 6 (pc' := 118) (ls' := [some (.ref 53), some (.int (nI r)), some (.int 1), some (.int (nI f)), some (.int (iI (x.1 (6 + f)))), some (.int (nI f)), some (.int (nI (x.2 (6 + f))))]) (sk' := [.int (8 * (nI (x.2 (6 + f)))), .ref 68]) (st' := s1) (fun _ h => h) ?_
      rw [show (8 * (nI (x.2 (6 + f)))) = nI (8 * (x.2 (6 + f))) from pk_mul 8 (x.2 (6 + f))]
      refine w_blk 2 (pc' := 121) (ls' := [some (.ref 53), some (.int (nI r)), some (.int 1), some (.int (nI f)), some (.int (iI (x.1 (6 + f)))), some (.int (nI f)), some (.int (nI (x.2 (6 + f))))]) (sk' := [.int ((nI (8 * (x.2 (6 + f)))) + (nI f)), .ref 68]) (st' := s1) (fun _ h => h) ?_
      rw [show ((nI (8 * (x.2 (6 + f)))) + (nI f)) = nI ((8 * (x.2 (6 + f))) + f) from nI_add (8 * (x.2 (6 + f))) f]
      refine w_blk 1 (pc' := 122) (ls' := [some (.ref 53), some (.int (nI r)), some (.int 1), some (.int (nI f)), some (.int (iI (x.1 (6 + f)))), some (.int (nI f)), some (.int (nI (x.2 (6 + f))))]) (sk' := [.int 1, .int (nI ((8 * (x.2 (6 + f))) + f)), .ref 68]) (st' := s1) (fun _ h => h) ?_
      refine w_bast2 rfl rfl (vp_in_nI (n := ((8 * (x.2 (6 + f))) + f)) (N := 48) (by omega) (by decide)) (Or.inr rfl) ?_
      rw [nI_clamp (show ((8 * (x.2 (6 + f))) + f) < 2 ^ 31 by omega)]
      exact chain cn f T ((mU s1.1 68 ((8 * (x.2 (6 + f))) + f) 1), s1.2) hch hf8 hre hT2 hd0.symm (MTk_w hT_4 hf8 (pI_t rfl).symm) hS_2 hD_3 hL_5 (Fr.trans hF_6 (Fr.mU (by decide)))
  suffices key : ∀ (m k : Nat) (l5 l6 : Option Value), k + m = 8 → mW (mMC mT (d + 2)) (0, fun _ => 0) (mAtL P_X10_augment) (some .int) Q 12 [some (.ref 53), some (.int (nI r)), some (.int 1), some (.int (eO (bstO x T r k))), some (.int (nI k)), l5, l6] [] s1 from key 8 0 none none (by omega)
  intro m
  induction m with
  | zero =>
    intro k l5 l6 hk
    obtain rfl : k = 8 := by omega
    refine w_blk 2 (pc' := 16) (ls' := [some (.ref 53), some (.int (nI r)), some (.int 1), some (.int (eO (bstO x T r 8))), some (.int (nI 8)), l5, l6]) (sk' := [.int 8, .int (nI 8)]) (st' := s1) (fun _ h => h) ?_
    refine w_cmp_ge rfl (fun _ => ?_) (fun hno => absurd (Int32.le_refl _) hno)
    exact fin l5 l6
  | succ m ih =>
    intro k l5 l6 hk
    have hk8 : k < 8 := by omega
    have hSk := hS8 k hk8
    have hlk := hlab (6 + k)
    rcases e : bstO x T r k with _ | f
    · show mW (mMC mT (d + 2)) (0, fun _ => 0) (mAtL P_X10_augment) (some .int) Q 12 [some (.ref 53), some (.int (nI r)), some (.int 1), some (.int (-9)), some (.int (nI k)), l5, l6] [] s1
      refine w_blk 2 (pc' := 16) (ls' := [some (.ref 53), some (.int (nI r)), some (.int 1), some (.int (-9)), some (.int (nI k)), l5, l6]) (sk' := [.int 8, .int (nI k)]) (st' := s1) (fun _ h => h) ?_
      refine w_cmp_ge rfl (fun hno => absurd hno (nI_ge (a := k) (b := 8) (by omega) (by omega))) (fun _ => ?_)
      refine w_blk 3 (pc' := 25) (ls' := [some (.ref 53), some (.int (nI r)), some (.int 1), some (.int (-9)), some (.int (nI k)), l5, l6]) (sk' := [.int (nI k), .ref 70]) (st' := s1) (fun _ h => h) ?_
      refine w_iald rfl rfl (vp_in_nI (n := k) (N := 8) (by omega) (by decide)) ?_
      rw [nI_clamp (show k < 2 ^ 31 by omega)]
      rw [hH1.2 k (by omega)]
      refine w_blk 1 (pc' := 27) (ls' := [some (.ref 53), some (.int (nI r)), some (.int 1), some (.int (-9)), some (.int (nI k)), l5, l6]) (sk' := [.int (nI r), .int (nI (dS T k))]) (st' := s1) (fun _ h => h) ?_
      refine w_cmp_ge rfl (fun h1 => ?_) (fun h1 => ?_)
      · replace h1 : r ≤ dS T k := (nI_leI (a := r) (b := (dS T k)) (by omega) (by omega)).mp h1
        refine w_blk 1 (pc' := 68) (ls' := [some (.ref 53), some (.int (nI r)), some (.int 1), some (.int (-9)), some (.int ((nI k) + 1)), l5, l6]) (sk' := []) (st' := s1) (fun _ h => h) ?_
        rw [show ((nI k) + 1) = nI (k + 1) from nI_add k 1]
        refine w_blk 1 (pc' := 12) (ls' := [some (.ref 53), some (.int (nI r)), some (.int 1), some (.int (-9)), some (.int (nI (k + 1))), l5, l6]) (sk' := []) (st' := s1) (fun _ h => h) ?_
        exact (by have hh := ih (k + 1) l5 l6 (by omega); rw [show eO (bstO x T r (k + 1)) = (-9) from by first | exact congrArg eO ((b_no (fun hh => by omega)).trans e) | exact congrArg eO (b_new ⟨by omega, by omega⟩ e) | exact congrArg eO (b_les ⟨by omega, by omega⟩ e (by omega)) | exact congrArg eO (b_ge ⟨by omega, by omega⟩ e (by omega))] at hh; exact hh)
      · replace h1 : ¬ (r ≤ dS T k) := fun hh => h1 ((nI_leI (a := r) (b := (dS T k)) (by omega) (by omega)).mpr hh)
        refine w_blk 3 (pc' := 36) (ls' := [some (.ref 53), some (.int (nI r)), some (.int 1), some (.int (-9)), some (.int (nI k)), l5, l6]) (sk' := [.int (nI k), .ref 72]) (st' := s1) (fun _ h => h) ?_
        refine w_iald rfl rfl (vp_in_nI (n := k) (N := 8) (by omega) (by decide)) ?_
        rw [nI_clamp (show k < 2 ^ 31 by omega)]
        rw [(hL.2 k (by omega)).1]
        refine w_if_le rfl (fun h2 => ?_) (fun h2 => ?_)
        · replace h2 : x.1 (6 + k) ≤ (0 : Int) := by rw [iI_0] at h2; exact (iI_le (a := x.1 (6 + k)) (b := (0 : Int)) (by omega) (by omega) (by omega) (by omega)).mp h2
          refine w_blk 1 (pc' := 68) (ls' := [some (.ref 53), some (.int (nI r)), some (.int 1), some (.int (-9)), some (.int ((nI k) + 1)), l5, l6]) (sk' := []) (st' := s1) (fun _ h => h) ?_
          rw [show ((nI k) + 1) = nI (k + 1) from nI_add k 1]
          refine w_blk 1 (pc' := 12) (ls' := [some (.ref 53), some (.int (nI r)), some (.int 1), some (.int (-9)), some (.int (nI (k + 1))), l5, l6]) (sk' := []) (st' := s1) (fun _ h => h) ?_
          exact (by have hh := ih (k + 1) l5 l6 (by omega); rw [show eO (bstO x T r (k + 1)) = (-9) from by first | exact congrArg eO ((b_no (fun hh => by omega)).trans e) | exact congrArg eO (b_new ⟨by omega, by omega⟩ e) | exact congrArg eO (b_les ⟨by omega, by omega⟩ e (by omega)) | exact congrArg eO (b_ge ⟨by omega, by omega⟩ e (by omega))] at hh; exact hh)
        · replace h2 : ¬ (x.1 (6 + k) ≤ (0 : Int)) := fun hh => h2 (by rw [iI_0]; exact (iI_le (a := x.1 (6 + k)) (b := (0 : Int)) (by omega) (by omega) (by omega) (by omega)).mpr hh)
          refine w_blk 2 (pc' := 43) (ls' := [some (.ref 53), some (.int (nI r)), some (.int 1), some (.int (-9)), some (.int (nI k)), l5, l6]) (sk' := [.int (-9), .int (-9)]) (st' := s1) (fun _ h => h) ?_
          refine w_cmp_eq rfl (fun _ => ?_) (fun hno => absurd rfl hno)
          refine w_blk 3 (pc' := 68) (ls' := [some (.ref 53), some (.int (nI r)), some (.int 1), some (.int (nI k)), some (.int ((nI k) + 1)), l5, l6]) (sk' := []) (st' := s1) (fun _ h => h) ?_
          rw [show ((nI k) + 1) = nI (k + 1) from nI_add k 1]
          refine w_blk 1 (pc' := 12) (ls' := [some (.ref 53), some (.int (nI r)), some (.int 1), some (.int (nI k)), some (.int (nI (k + 1))), l5, l6]) (sk' := []) (st' := s1) (fun _ h => h) ?_
          exact (by have hh := ih (k + 1) l5 l6 (by omega); rw [show eO (bstO x T r (k + 1)) = (nI k) from by first | exact congrArg eO ((b_no (fun hh => by omega)).trans e) | exact congrArg eO (b_new ⟨by omega, by omega⟩ e) | exact congrArg eO (b_les ⟨by omega, by omega⟩ e (by omega)) | exact congrArg eO (b_ge ⟨by omega, by omega⟩ e (by omega))] at hh; exact hh)
    · have hfk := ((bstO_spec (x := x) (T := T) (r := r) k).2 f e).1
      have hlf := hlab (6 + f)
      show mW (mMC mT (d + 2)) (0, fun _ => 0) (mAtL P_X10_augment) (some .int) Q 12 [some (.ref 53), some (.int (nI r)), some (.int 1), some (.int (nI f)), some (.int (nI k)), l5, l6] [] s1
      refine w_blk 2 (pc' := 16) (ls' := [some (.ref 53), some (.int (nI r)), some (.int 1), some (.int (nI f)), some (.int (nI k)), l5, l6]) (sk' := [.int 8, .int (nI k)]) (st' := s1) (fun _ h => h) ?_
      refine w_cmp_ge rfl (fun hno => absurd hno (nI_ge (a := k) (b := 8) (by omega) (by omega))) (fun _ => ?_)
      refine w_blk 3 (pc' := 25) (ls' := [some (.ref 53), some (.int (nI r)), some (.int 1), some (.int (nI f)), some (.int (nI k)), l5, l6]) (sk' := [.int (nI k), .ref 70]) (st' := s1) (fun _ h => h) ?_
      refine w_iald rfl rfl (vp_in_nI (n := k) (N := 8) (by omega) (by decide)) ?_
      rw [nI_clamp (show k < 2 ^ 31 by omega)]
      rw [hH1.2 k (by omega)]
      refine w_blk 1 (pc' := 27) (ls' := [some (.ref 53), some (.int (nI r)), some (.int 1), some (.int (nI f)), some (.int (nI k)), l5, l6]) (sk' := [.int (nI r), .int (nI (dS T k))]) (st' := s1) (fun _ h => h) ?_
      refine w_cmp_ge rfl (fun h1 => ?_) (fun h1 => ?_)
      · replace h1 : r ≤ dS T k := (nI_leI (a := r) (b := (dS T k)) (by omega) (by omega)).mp h1
        refine w_blk 1 (pc' := 68) (ls' := [some (.ref 53), some (.int (nI r)), some (.int 1), some (.int (nI f)), some (.int ((nI k) + 1)), l5, l6]) (sk' := []) (st' := s1) (fun _ h => h) ?_
        rw [show ((nI k) + 1) = nI (k + 1) from nI_add k 1]
        refine w_blk 1 (pc' := 12) (ls' := [some (.ref 53), some (.int (nI r)), some (.int 1), some (.int (nI f)), some (.int (nI (k + 1))), l5, l6]) (sk' := []) (st' := s1) (fun _ h => h) ?_
        exact (by have hh := ih (k + 1) l5 l6 (by omega); rw [show eO (bstO x T r (k + 1)) = (nI f) from by first | exact congrArg eO ((b_no (fun hh => by omega)).trans e) | exact congrArg eO (b_new ⟨by omega, by omega⟩ e) | exact congrArg eO (b_les ⟨by omega, by omega⟩ e (by omega)) | exact congrArg eO (b_ge ⟨by omega, by omega⟩ e (by omega))] at hh; exact hh)
      · replace h1 : ¬ (r ≤ dS T k) := fun hh => h1 ((nI_leI (a := r) (b := (dS T k)) (by omega) (by omega)).mpr hh)
        refine w_blk 3 (pc' := 36) (ls' := [some (.ref 53), some (.int (nI r)), some (.int 1), some (.int (nI f)), some (.int (nI k)), l5, l6]) (sk' := [.int (nI k), .ref 72]) (st' := s1) (fun _ h => h) ?_
        refine w_iald rfl rfl (vp_in_nI (n := k) (N := 8) (by omega) (by decide)) ?_
        rw [nI_clamp (show k < 2 ^ 31 by omega)]
        rw [(hL.2 k (by omega)).1]
        refine w_if_le rfl (fun h2 => ?_) (fun h2 => ?_)
        · replace h2 : x.1 (6 + k) ≤ (0 : Int) := by rw [iI_0] at h2; exact (iI_le (a := x.1 (6 + k)) (b := (0 : Int)) (by omega) (by omega) (by omega) (by omega)).mp h2
          refine w_blk 1 (pc' := 68) (ls' := [some (.ref 53), some (.int (nI r)), some (.int 1), some (.int (nI f)), some (.int ((nI k) + 1)), l5, l6]) (sk' := []) (st' := s1) (fun _ h => h) ?_
          rw [show ((nI k) + 1) = nI (k + 1) from nI_add k 1]
          refine w_blk 1 (pc' := 12) (ls' := [some (.ref 53), some (.int (nI r)), some (.int 1), some (.int (nI f)), some (.int (nI (k + 1))), l5, l6]) (sk' := []) (st' := s1) (fun _ h => h) ?_
          exact (by have hh := ih (k + 1) l5 l6 (by omega); rw [show eO (bstO x T r (k + 1)) = (nI f) from by first | exact congrArg eO ((b_no (fun hh => by omega)).trans e) | exact congrArg eO (b_new ⟨by omega, by omega⟩ e) | exact congrArg eO (b_les ⟨by omega, by omega⟩ e (by omega)) | exact congrArg eO (b_ge ⟨by omega, by omega⟩ e (by omega))] at hh; exact hh)
        · replace h2 : ¬ (x.1 (6 + k) ≤ (0 : Int)) := fun hh => h2 (by rw [iI_0]; exact (iI_le (a := x.1 (6 + k)) (b := (0 : Int)) (by omega) (by omega) (by omega) (by omega)).mpr hh)
          refine w_blk 2 (pc' := 43) (ls' := [some (.ref 53), some (.int (nI r)), some (.int 1), some (.int (nI f)), some (.int (nI k)), l5, l6]) (sk' := [.int (-9), .int (nI f)]) (st' := s1) (fun _ h => h) ?_
          refine w_cmp_eq rfl (fun hno => absurd hno (fun hh => absurd (congrArg Int32.toInt hh) (by rw [nI_toInt (by omega), show (-9 : Int32).toInt = -9 from rfl]; omega))) (fun _ => ?_)
          refine w_blk 3 (pc' := 52) (ls' := [some (.ref 53), some (.int (nI r)), some (.int 1), some (.int (nI f)), some (.int (nI k)), l5, l6]) (sk' := [.int (nI k), .ref 72]) (st' := s1) (fun _ h => h) ?_
          refine w_iald rfl rfl (vp_in_nI (n := k) (N := 8) (by omega) (by decide)) ?_
          rw [nI_clamp (show k < 2 ^ 31 by omega)]
          rw [(hL.2 k (by omega)).1]
          refine w_blk 3 (pc' := 58) (ls' := [some (.ref 53), some (.int (nI r)), some (.int 1), some (.int (nI f)), some (.int (nI k)), l5, l6]) (sk' := [.int (nI f), .ref 72, .int (iI (x.1 (6 + k)))]) (st' := s1) (fun _ h => h) ?_
          refine w_iald rfl rfl (vp_in_nI (n := f) (N := 8) (by omega) (by decide)) ?_
          rw [nI_clamp (show f < 2 ^ 31 by omega)]
          rw [(hL.2 f (by omega)).1]
          refine w_cmp_le rfl (fun h3 => ?_) (fun h3 => ?_)
          · replace h3 : x.1 (6 + k) ≤ x.1 (6 + f) := by exact (iI_le (a := x.1 (6 + k)) (b := x.1 (6 + f)) (by omega) (by omega) (by omega) (by omega)).mp h3
            refine w_blk 1 (pc' := 68) (ls' := [some (.ref 53), some (.int (nI r)), some (.int 1), some (.int (nI f)), some (.int ((nI k) + 1)), l5, l6]) (sk' := []) (st' := s1) (fun _ h => h) ?_
            rw [show ((nI k) + 1) = nI (k + 1) from nI_add k 1]
            refine w_blk 1 (pc' := 12) (ls' := [some (.ref 53), some (.int (nI r)), some (.int 1), some (.int (nI f)), some (.int (nI (k + 1))), l5, l6]) (sk' := []) (st' := s1) (fun _ h => h) ?_
            exact (by have hh := ih (k + 1) l5 l6 (by omega); rw [show eO (bstO x T r (k + 1)) = (nI f) from by first | exact congrArg eO ((b_no (fun hh => by omega)).trans e) | exact congrArg eO (b_new ⟨by omega, by omega⟩ e) | exact congrArg eO (b_les ⟨by omega, by omega⟩ e (by omega)) | exact congrArg eO (b_ge ⟨by omega, by omega⟩ e (by omega))] at hh; exact hh)
          · replace h3 : ¬ (x.1 (6 + k) ≤ x.1 (6 + f)) := fun hh => h3 (by exact (iI_le (a := x.1 (6 + k)) (b := x.1 (6 + f)) (by omega) (by omega) (by omega) (by omega)).mpr hh)
            refine w_blk 3 (pc' := 68) (ls' := [some (.ref 53), some (.int (nI r)), some (.int 1), some (.int (nI k)), some (.int ((nI k) + 1)), l5, l6]) (sk' := []) (st' := s1) (fun _ h => h) ?_
            rw [show ((nI k) + 1) = nI (k + 1) from nI_add k 1]
            refine w_blk 1 (pc' := 12) (ls' := [some (.ref 53), some (.int (nI r)), some (.int 1), some (.int (nI k)), some (.int (nI (k + 1))), l5, l6]) (sk' := []) (st' := s1) (fun _ h => h) ?_
            exact (by have hh := ih (k + 1) l5 l6 (by omega); rw [show eO (bstO x T r (k + 1)) = (nI k) from by first | exact congrArg eO ((b_no (fun hh => by omega)).trans e) | exact congrArg eO (b_new ⟨by omega, by omega⟩ e) | exact congrArg eO (b_les ⟨by omega, by omega⟩ e (by omega)) | exact congrArg eO (b_ge ⟨by omega, by omega⟩ e (by omega))] at hh; exact hh)
set_option maxRecDepth 20000 in
/-- augment -/
theorem m_augment0 (d : Nat) (n : Nat → Nat) (c : Nat → Nat → Nat) (E T : EdT) (r : Nat) (p : Nat → Int) (G : Int) (st : mSt) (hR : MR st n c) (hB : CB n c) (hE : MEd st E) (hT : MTk st T) (hH : MHd st T) (hEn : ∀ d s, d < 6 → s < 8 → E d s = true → d < n 0 ∧ s < n 1) (hTE : ∀ d s, d < 6 → s < 8 → T d s = true → E d s = true) (hPV : PV E T (wF n c false) r (n 0) p G) (hr : r ≤ 8) : ∃ (v : Int32) (s : mSt), mMC mT (d + 3) 159 [.ref 53, .int (nI r), .int 0] st (some (.int v)) s ∧ ((bstO (fin_ T E (wF n c false) r (n 0)) T r 8 = none → v = 0 ∧ MTk s T ∧ MHd s T) ∧ (∀ f, bstO (fin_ T E (wF n c false) r (n 0)) T r 8 = some f → v = iI ((fin_ T E (wF n c false) r (n 0)).1 (6 + f)) ∧ MTk s (flq (fin_ T E (wF n c false) r (n 0)).2 6 f T) ∧ MHd s (flq (fin_ T E (wF n c false) r (n 0)).2 6 f T)) ∧ Fr [68, 69, 70, 71, 72, 73, 74] st s) := by
  suffices H : ∀ Q : Option Value → mSt → Prop, (∀ (v : Int32) (s : mSt), (((bstO (fin_ T E (wF n c false) r (n 0)) T r 8 = none → v = 0 ∧ MTk s T ∧ MHd s T) ∧ (∀ f, bstO (fin_ T E (wF n c false) r (n 0)) T r 8 = some f → v = iI ((fin_ T E (wF n c false) r (n 0)).1 (6 + f)) ∧ MTk s (flq (fin_ T E (wF n c false) r (n 0)).2 6 f T) ∧ MHd s (flq (fin_ T E (wF n c false) r (n 0)).2 6 f T)) ∧ Fr [68, 69, 70, 71, 72, 73, 74] st s)) → Q (some (.int v)) s) → mW (mMC mT (d + 2)) (0, fun _ => 0) (mAtL P_X10_augment) (some .int) Q 0 [some (.ref 53), some (.int (nI r)), some (.int 0), none, none, none, none] [] st by
    obtain ⟨_, _, ⟨v, s, rfl, rfl, hp⟩, hw⟩ := mW_ex (H (fun vv tt => ∃ (v : Int32) (s : mSt),  vv = some (.int v) ∧ s = tt ∧ ((bstO (fin_ T E (wF n c false) r (n 0)) T r 8 = none → v = 0 ∧ MTk s T ∧ MHd s T) ∧ (∀ f, bstO (fin_ T E (wF n c false) r (n 0)) T r 8 = some f → v = iI ((fin_ T E (wF n c false) r (n 0)).1 (6 + f)) ∧ MTk s (flq (fin_ T E (wF n c false) r (n 0)).2 6 f T) ∧ MHd s (flq (fin_ T E (wF n c false) r (n 0)).2 6 f T)) ∧ Fr [68, 69, 70, 71, 72, 73, 74] st s)) (fun v s hp => ⟨v, s, rfl, rfl, hp⟩))
    exact ⟨v, s, mI_X10_augment (d := d + 2) (Nat.le_of_ble_eq_true rfl) hw, hp⟩
  intro Q hq
  obtain ⟨hb0, hb1, hb2, hbd, hbs, hby⟩ := id hB
  have hNO : NOi = -1000000 := rfl
  have hww := wF_WB hB false
  obtain ⟨s1, hc1, hL, hf1⟩ := m_findWays0 (d + 0) n c E T r p G st hR hB hE hT hH hEn hTE hPV hr
  obtain ⟨hst0, hst1⟩ := flow_step hPV hww
  obtain ⟨t, hF⟩ := fin_FIX hPV hww
  have hlab := lab_bd (T := T) (E := E) hww (r := r) (nd := n 0)
  obtain ⟨x, hxe⟩ : ∃ x, x = (fin_ T E (wF n c false) r (n 0)) := ⟨_, rfl⟩
  rw [← hxe] at hL hst0 hst1 hF hlab hq
  have hR1 : MR s1 n c := MR_fr hf1 (by decide) hR
  have hT1 : MTk s1 T := MTk_e (hf1.1 68 (by decide)) hT
  have hH1 : MHd s1 T := MHd_e (hf1.1 69 (by decide)) (hf1.1 70 (by decide)) hH
  have hS8 := hPV.2.2.2.2.2.2.2.1
  refine w_blk 3 (pc' := 3) (ls' := [some (.ref 53), some (.int (nI r)), some (.int 0), none, none, none, none]) (sk' := [.int 0, .int (nI r), .ref 53]) (st' := st) (fun _ h => h) ?_
  refine w_callV (As := [.ref 53, .int (nI r), .int 0]) (rest := []) rfl rfl rfl (Nat.le_of_ble_eq_true rfl) (Nat.le_of_ble_eq_true rfl) (by first | exact Or.inl ⟨rfl, rfl⟩ | exact Or.inr ⟨rfl, rfl⟩) hc1 ?_
  refine w_blk 4 (pc' := 12) (ls' := [some (.ref 53), some (.int (nI r)), some (.int 0), some (.int (-9)), some (.int 0), none, none]) (sk' := []) (st' := s1) (fun _ h => h) ?_
  have fin : ∀ (l5 l6 : Option Value), mW (mMC mT (d + 2)) (0, fun _ => 0) (mAtL P_X10_augment) (some .int) Q 71 [some (.ref 53), some (.int (nI r)), some (.int 0), some (.int (eO (bstO x T r 8))), some (.int (nI 8)), l5, l6] [] s1 := by
    intro l5 l6
    rcases e : bstO x T r 8 with _ | f
    · show mW (mMC mT (d + 2)) (0, fun _ => 0) (mAtL P_X10_augment) (some .int) Q 71 [some (.ref 53), some (.int (nI r)), some (.int 0), some (.int (-9)), some (.int (nI 8)), l5, l6] [] s1
      refine w_blk 2 (pc' := 74) (ls' := [some (.ref 53), some (.int (nI r)), some (.int 0), some (.int (-9)), some (.int (nI 8)), l5, l6]) (sk' := [.int (-9), .int (-9)]) (st' := s1) (fun _ h => h) ?_
      refine w_cmp_ne rfl (fun hno => absurd hno (fun hh => hh rfl)) (fun _ => ?_)
      refine w_blk 1 (pc' := 78) (ls' := [some (.ref 53), some (.int (nI r)), some (.int 0), some (.int (-9)), some (.int (nI 8)), l5, l6]) (sk' := [.int 0]) (st' := s1) (fun _ h => h) ?_
      exact w_iret rfl rfl rfl (hq 0 s1 ⟨fun _ => ⟨rfl, hT1, hH1⟩, fun f hf => (by rw [e] at hf; exact nomatch hf), Fr.mono hf1 (by decide)⟩)
    · obtain ⟨hf8, hpos, cn, hcn, hch, ⟨p', G', hP2⟩, d0, hd0, hd06, hsr, hdD, hdS⟩ := hst1 f e
      have hre := NOi_neg hpos
      have hlf := hlab (6 + f)
      have hfs := FIX_S hF hf8 hre
      have hfd := hfs.1
      have hSf := hS8 f hf8
      have efl := flq_fl cn 6 f T (by omega) hch
      obtain ⟨T2, hT2⟩ : ∃ T2, fl x.2 cn f T = T2 := ⟨_, rfl⟩
      rw [hT2] at hdD hdS efl
      show mW (mMC mT (d + 2)) (0, fun _ => 0) (mAtL P_X10_augment) (some .int) Q 71 [some (.ref 53), some (.int (nI r)), some (.int 0), some (.int (nI f)), some (.int (nI 8)), l5, l6] [] s1
      refine w_blk 2 (pc' := 74) (ls' := [some (.ref 53), some (.int (nI r)), some (.int 0), some (.int (nI f)), some (.int (nI 8)), l5, l6]) (sk' := [.int (-9), .int (nI f)]) (st' := s1) (fun _ h => h) ?_
      refine w_cmp_ne rfl (fun _ => ?_) (fun hno => absurd (fun hh => absurd (congrArg Int32.toInt hh) (by rw [nI_toInt (by omega), show (-9 : Int32).toInt = -9 from rfl]; omega)) hno)
      refine w_blk 3 (pc' := 84) (ls' := [some (.ref 53), some (.int (nI r)), some (.int 0), some (.int (nI f)), some (.int (nI 8)), l5, l6]) (sk' := [.int (nI f), .ref 72]) (st' := s1) (fun _ h => h) ?_
      refine w_iald rfl rfl (vp_in_nI (n := f) (N := 8) (by omega) (by decide)) ?_
      rw [nI_clamp (show f < 2 ^ 31 by omega)]
      rw [(hL.2 f (by omega)).1]
      refine w_blk 5 (pc' := 93) (ls' := [some (.ref 53), some (.int (nI r)), some (.int 0), some (.int (nI f)), some (.int (iI (x.1 (6 + f)))), l5, l6]) (sk' := [.int (nI f), .ref 70, .int (nI f), .ref 70]) (st' := s1) (fun _ h => h) ?_
      refine w_iald rfl rfl (vp_in_nI (n := f) (N := 8) (by omega) (by decide)) ?_
      rw [nI_clamp (show f < 2 ^ 31 by omega)]
      rw [hH1.2 f (by omega)]
      refine w_blk 2 (pc' := 96) (ls' := [some (.ref 53), some (.int (nI r)), some (.int 0), some (.int (nI f)), some (.int (iI (x.1 (6 + f)))), l5, l6]) (sk' := [.int ((nI (dS T f)) + 1), .int (nI f), .ref 70]) (st' := s1) (fun _ h => h) ?_
      rw [show ((nI (dS T f)) + 1) = nI ((dS T f) + 1) from nI_add (dS T f) 1]
      refine w_iast rfl rfl (vp_in_nI (n := f) (N := 8) (by omega) (by decide)) ?_
      rw [nI_clamp (show f < 2 ^ 31 by omega)]
      have hS_2 : ∀ y, y < 8 → (((mU s1.1 70 f (nI ((dS T f) + 1))), s1.2)).1 70 y = nI (dS T2 y) := (fun y hy => if ey : y = f then (by rw [hdS y hy, if_pos ey, ey]; exact mU_at (f := s1.1) (p := 70) (k := f)) else (by rw [hdS y hy, if_neg ey, Nat.add_zero]; exact (mU_row ey).trans (hH1.2 y hy)))
      have hD_3 : ∀ y, y < 6 → (((mU s1.1 70 f (nI ((dS T f) + 1))), s1.2)).1 69 y = nI (dD T y) := hH1.1
      have hT_4 : MTk ((mU s1.1 70 f (nI ((dS T f) + 1))), s1.2) T := hT1
      have hL_5 : MLb ((mU s1.1 70 f (nI ((dS T f) + 1))), s1.2) x := hL
      have hF_6 : Fr [68, 69, 70, 71, 72, 73, 74] st ((mU s1.1 70 f (nI ((dS T f) + 1))), s1.2) := (Fr.trans (Fr.mono hf1 (by decide)) (Fr.mU (by decide)))
      have hR_7 : MR ((mU s1.1 70 f (nI ((dS T f) + 1))), s1.2) n c := (MR_fr (Fr.trans (Fr.mono hf1 (by decide)) (Fr.mU (by decide)) : Fr [68, 69, 70, 71, 72, 73, 74] st _) (by decide) hR)
      generalize ((mU s1.1 70 f (nI ((dS T f) + 1))), s1.2) = s1 at hS_2 hD_3 hT_4 hL_5 hF_6 hR_7 ⊢
      have chain : ∀ (m s' : Nat) (T1 : EdT) (s2 : mSt), CH x.2 m s' → s' < 8 → x.1 (6 + s') ≠ NOi → fl x.2 m s' T1 = T2 → endD x.2 m s' = d0 → MTk s2 (stT T1 (x.2 (6 + s')) s' true) → (∀ y, y < 8 → s2.1 70 y = nI (dS T2 y)) → (∀ y, y < 6 → s2.1 69 y = nI (dD T y)) → MLb s2 x → Fr [68, 69, 70, 71, 72, 73, 74] st s2 → mW (mMC mT (d + 2)) (0, fun _ => 0) (mAtL P_X10_augment) (some .int) Q 123 [some (.ref 53), some (.int (nI r)), some (.int 0), some (.int (nI f)), some (.int (iI (x.1 (6 + f)))), some (.int (nI s')), some (.int (nI (x.2 (6 + s'))))] [] s2 := by
        intro m
        induction m with
        | zero =>
          intro s' T1 s2 hch2 hs' hr' hfl hend hT3 hS3 hD3 hL3 hF3
          obtain ⟨hfd', hdr', -⟩ := FIX_S hF hs' hr'
          have hd8 := dD_8 T (x.2 (6 + s'))
          have h99 : x.2 (x.2 (6 + s')) = 99 := hch2
          have hed : x.2 (6 + s') = d0 := hend
          refine w_blk 3 (pc' := 129) (ls' := [some (.ref 53), some (.int (nI r)), some (.int 0), some (.int (nI f)), some (.int (iI (x.1 (6 + f)))), some (.int (nI s')), some (.int (nI (x.2 (6 + s'))))]) (sk' := [.int (nI (x.2 (6 + s'))), .ref 73]) (st' := s2) (fun _ h => h) ?_
          refine w_iald rfl rfl (vp_in_nI (n := (x.2 (6 + s'))) (N := 6) (by omega) (by decide)) ?_
          rw [nI_clamp (show (x.2 (6 + s')) < 2 ^ 31 by omega)]
          rw [(hL3.1 (x.2 (6 + s')) (by omega)).2.trans (show eF (x.2 (x.2 (6 + s'))) = -9 from by rw [h99]; rfl)]
          refine w_blk 1 (pc' := 132) (ls' := [some (.ref 53), some (.int (nI r)), some (.int 0), some (.int (nI f)), some (.int (iI (x.1 (6 + f)))), some (.int (nI s')), some (.int (nI (x.2 (6 + s'))))]) (sk' := [.int (-9), .int (-9)]) (st' := s2) (fun _ h => h) ?_
          refine w_cmp_eq rfl (fun _ => ?_) (fun hno => absurd rfl hno)
          refine w_blk 4 (pc' := 191) (ls' := [some (.ref 53), some (.int (nI r)), some (.int 0), some (.int (nI f)), some (.int (iI (x.1 (6 + f)))), some (.int (nI s')), some (.int (nI (x.2 (6 + s'))))]) (sk' := [.int (nI (x.2 (6 + s'))), .ref 69, .int (nI (x.2 (6 + s'))), .ref 69]) (st' := s2) (fun _ h => h) ?_
          refine w_iald rfl rfl (vp_in_nI (n := (x.2 (6 + s'))) (N := 6) (by omega) (by decide)) ?_
          rw [nI_clamp (show (x.2 (6 + s')) < 2 ^ 31 by omega)]
          rw [hD3 (x.2 (6 + s')) (by omega)]
          refine w_blk 2 (pc' := 194) (ls' := [some (.ref 53), some (.int (nI r)), some (.int 0), some (.int (nI f)), some (.int (iI (x.1 (6 + f)))), some (.int (nI s')), some (.int (nI (x.2 (6 + s'))))]) (sk' := [.int ((nI (dD T (x.2 (6 + s')))) + 1), .int (nI (x.2 (6 + s'))), .ref 69]) (st' := s2) (fun _ h => h) ?_
          rw [show ((nI (dD T (x.2 (6 + s')))) + 1) = nI ((dD T (x.2 (6 + s'))) + 1) from nI_add (dD T (x.2 (6 + s'))) 1]
          refine w_iast rfl rfl (vp_in_nI (n := (x.2 (6 + s'))) (N := 6) (by omega) (by decide)) ?_
          rw [nI_clamp (show (x.2 (6 + s')) < 2 ^ 31 by omega)]
          refine w_blk 1 (pc' := 197) (ls' := [some (.ref 53), some (.int (nI r)), some (.int 0), some (.int (nI f)), some (.int (iI (x.1 (6 + f)))), some (.int (nI s')), some (.int (nI (x.2 (6 + s'))))]) (sk' := [.int (iI (x.1 (6 + f)))]) (st' := ((mU s2.1 69 (x.2 (6 + s')) (nI ((dD T (x.2 (6 + s'))) + 1))), s2.2)) (fun _ h => h) ?_
          exact w_iret rfl rfl rfl (hq _ _ ⟨fun hn => (by rw [e] at hn; exact nomatch hn), fun g hg => (by rw [e] at hg; obtain rfl := Option.some.inj hg; rw [efl, ← hfl]; exact ⟨rfl, hT3, ⟨fun y hy => (by rw [hfl, hdD y hy]; exact if ey : y = x.2 (6 + s') then (by rw [if_pos (ey.trans hed), ey]; exact mU_at (f := s2.1) (p := 69) (k := x.2 (6 + s'))) else (by rw [if_neg (fun e9 => ey (e9.trans hed.symm)), Nat.add_zero]; exact (mU_row ey).trans (hD3 y hy))), fun y hy => (by rw [hfl]; exact hS3 y hy)⟩⟩), Fr.trans hF3 (Fr.mU (by decide))⟩)
        | succ m ih =>
          intro s' T1 s2 hch2 hs' hr' hfl hend hT3 hS3 hD3 hL3 hF3
          obtain ⟨hfd', hdr', -⟩ := FIX_S hF hs' hr'
          have hd8 := dD_8 T (x.2 (6 + s'))
          obtain ⟨s3, hs3, hc3, hch3⟩ := hch2
          have hd3 := FIX_D hF hfd' hdr'
          have hr3 : x.1 (6 + s3) ≠ NOi := by
            rcases hd3 with ⟨-, -, h9⟩ | ⟨s4, hs4, h9, h10, -⟩
            · omega
            · obtain rfl : s3 = s4 := by omega
              exact h10
          obtain ⟨hfd3, -, -⟩ := FIX_S hF hs3 hr3
          have hfl3 : fl x.2 m s3 (stT (stT T1 (x.2 (6 + s')) s' true) (x.2 (6 + s')) s3 false) = T2 := by
            have h9 : fl x.2 m (x.2 (x.2 (6 + s')) - 6) (stT (stT T1 (x.2 (6 + s')) s' true) (x.2 (6 + s')) (x.2 (x.2 (6 + s')) - 6) false) = T2 := hfl
            rw [hc3, Nat.add_sub_cancel_left] at h9
            exact h9
          have hend3 : endD x.2 m s3 = d0 := by
            have h9 : endD x.2 m (x.2 (x.2 (6 + s')) - 6) = d0 := hend
            rw [hc3, Nat.add_sub_cancel_left] at h9
            exact h9
          refine w_blk 3 (pc' := 129) (ls' := [some (.ref 53), some (.int (nI r)), some (.int 0), some (.int (nI f)), some (.int (iI (x.1 (6 + f)))), some (.int (nI s')), some (.int (nI (x.2 (6 + s'))))]) (sk' := [.int (nI (x.2 (6 + s'))), .ref 73]) (st' := s2) (fun _ h => h) ?_
          refine w_iald rfl rfl (vp_in_nI (n := (x.2 (6 + s'))) (N := 6) (by omega) (by decide)) ?_
          rw [nI_clamp (show (x.2 (6 + s')) < 2 ^ 31 by omega)]
          rw [(hL3.1 (x.2 (6 + s')) (by omega)).2.trans (show eF (x.2 (x.2 (6 + s'))) = nI s3 from by rw [hc3]; exact eF_s hs3)]
          refine w_blk 1 (pc' := 132) (ls' := [some (.ref 53), some (.int (nI r)), some (.int 0), some (.int (nI f)), some (.int (iI (x.1 (6 + f)))), some (.int (nI s')), some (.int (nI (x.2 (6 + s'))))]) (sk' := [.int (-9), .int (nI s3)]) (st' := s2) (fun _ h => h) ?_
          refine w_cmp_eq rfl (fun hno => absurd hno (fun hh => absurd (congrArg Int32.toInt hh) (by rw [nI_toInt (by omega), show (-9 : Int32).toInt = -9 from rfl]; omega))) (fun _ => ?_)
          refine w_blk 3 (pc' := 141) (ls' := [some (.ref 53), some (.int (nI r)), some (.int 0), some (.int (nI f)), some (.int (iI (x.1 (6 + f)))), some (.int (nI s')), some (.int (nI (x.2 (6 + s'))))]) (sk' := [.int (nI (x.2 (6 + s'))), .ref 73]) (st' := s2) (fun _ h => h) ?_
          refine w_iald rfl rfl (vp_in_nI (n := (x.2 (6 + s'))) (N := 6) (by omega) (by decide)) ?_
          rw [nI_clamp (show (x.2 (6 + s')) < 2 ^ 31 by omega)]
          rw [(hL3.1 (x.2 (6 + s')) (by omega)).2.trans (show eF (x.2 (x.2 (6 + s'))) = nI s3 from by rw [hc3]; exact eF_s hs3)]
          refine w_blk 6 (pc' := 153) (ls' := [some (.ref 53), some (.int (nI r)), some (.int 0), some (.int (nI f)), some (.int (iI (x.1 (6 + f)))), some (.int (nI s3)), some (.int (nI (x.2 (6 + s'))))]) (sk' := [.int (8 * (nI (x.2 (6 + s')))), .ref 68]) (st' := s2) (fun _ h => h) ?_
          rw [show (8 * (nI (x.2 (6 + s')))) = nI (8 * (x.2 (6 + s'))) from pk_mul 8 (x.2 (6 + s'))]
          refine w_blk 2 (pc' := 156) (ls' := [some (.ref 53), some (.int (nI r)), some (.int 0), some (.int (nI f)), some (.int (iI (x.1 (6 + f)))), some (.int (nI s3)), some (.int (nI (x.2 (6 + s'))))]) (sk' := [.int ((nI (8 * (x.2 (6 + s')))) + (nI s3)), .ref 68]) (st' := s2) (fun _ h => h) ?_
          rw [show ((nI (8 * (x.2 (6 + s')))) + (nI s3)) = nI ((8 * (x.2 (6 + s'))) + s3) from nI_add (8 * (x.2 (6 + s'))) s3]
          refine w_blk 1 (pc' := 157) (ls' := [some (.ref 53), some (.int (nI r)), some (.int 0), some (.int (nI f)), some (.int (iI (x.1 (6 + f)))), some (.int (nI s3)), some (.int (nI (x.2 (6 + s'))))]) (sk' := [.int 0, .int (nI ((8 * (x.2 (6 + s'))) + s3)), .ref 68]) (st' := s2) (fun _ h => h) ?_
          refine w_bast2 rfl rfl (vp_in_nI (n := ((8 * (x.2 (6 + s'))) + s3)) (N := 48) (by omega) (by decide)) (Or.inl rfl) ?_
          rw [nI_clamp (show ((8 * (x.2 (6 + s'))) + s3) < 2 ^ 31 by omega)]
          have hT_9 : MTk ((mU s2.1 68 ((8 * (x.2 (6 + s'))) + s3) 0), s2.2) (stT (stT T1 (x.2 (6 + s')) s' true) (x.2 (6 + s')) s3 false) := (MTk_w hT3 hs3 (pI_f Bool.false_ne_true).symm)
          have hS_10 : ∀ y, y < 8 → (((mU s2.1 68 ((8 * (x.2 (6 + s'))) + s3) 0), s2.2)).1 70 y = nI (dS T2 y) := hS3
          have hD_11 : ∀ y, y < 6 → (((mU s2.1 68 ((8 * (x.2 (6 + s'))) + s3) 0), s2.2)).1 69 y = nI (dD T y) := hD3
          have hL_12 : MLb ((mU s2.1 68 ((8 * (x.2 (6 + s'))) + s3) 0), s2.2) x := hL3
          have hF_13 : Fr [68, 69, 70, 71, 72, 73, 74] st ((mU s2.1 68 ((8 * (x.2 (6 + s'))) + s3) 0), s2.2) := (Fr.trans hF3 (Fr.mU (by decide)))
          generalize ((mU s2.1 68 ((8 * (x.2 (6 + s'))) + s3) 0), s2.2) = s8 at hT_9 hS_10 hD_11 hL_12 hF_13 ⊢
          refine w_blk 3 (pc' := 164) (ls' := [some (.ref 53), some (.int (nI r)), some (.int 0), some (.int (nI f)), some (.int (iI (x.1 (6 + f)))), some (.int (nI s3)), some (.int (nI (x.2 (6 + s'))))]) (sk' := [.int (nI s3), .ref 74]) (st' := s8) (fun _ h => h) ?_
          refine w_iald rfl rfl (vp_in_nI (n := s3) (N := 8) (by omega) (by decide)) ?_
          rw [nI_clamp (show s3 < 2 ^ 31 by omega)]
          rw [(hL_12.2 s3 (by omega)).2.trans (eG_d hfd3)]
          refine w_blk 6 (pc' := 176) (ls' := [some (.ref 53), some (.int (nI r)), some (.int 0), some (.int (nI f)), some (.int (iI (x.1 (6 + f)))), some (.int (nI s3)), some (.int (nI (x.2 (6 + s3))))]) (sk' := [.int (8 * (nI (x.2 (6 + s3)))), .ref 68]) (st' := s8) (fun _ h => h) ?_
          rw [show (8 * (nI (x.2 (6 + s3)))) = nI (8 * (x.2 (6 + s3))) from pk_mul 8 (x.2 (6 + s3))]
          refine w_blk 2 (pc' := 179) (ls' := [some (.ref 53), some (.int (nI r)), some (.int 0), some (.int (nI f)), some (.int (iI (x.1 (6 + f)))), some (.int (nI s3)), some (.int (nI (x.2 (6 + s3))))]) (sk' := [.int ((nI (8 * (x.2 (6 + s3)))) + (nI s3)), .ref 68]) (st' := s8) (fun _ h => h) ?_
          rw [show ((nI (8 * (x.2 (6 + s3)))) + (nI s3)) = nI ((8 * (x.2 (6 + s3))) + s3) from nI_add (8 * (x.2 (6 + s3))) s3]
          refine w_blk 1 (pc' := 180) (ls' := [some (.ref 53), some (.int (nI r)), some (.int 0), some (.int (nI f)), some (.int (iI (x.1 (6 + f)))), some (.int (nI s3)), some (.int (nI (x.2 (6 + s3))))]) (sk' := [.int 1, .int (nI ((8 * (x.2 (6 + s3))) + s3)), .ref 68]) (st' := s8) (fun _ h => h) ?_
          refine w_bast2 rfl rfl (vp_in_nI (n := ((8 * (x.2 (6 + s3))) + s3)) (N := 48) (by omega) (by decide)) (Or.inr rfl) ?_
          rw [nI_clamp (show ((8 * (x.2 (6 + s3))) + s3) < 2 ^ 31 by omega)]
          refine w_blk 1 (pc' := 123) (ls' := [some (.ref 53), some (.int (nI r)), some (.int 0), some (.int (nI f)), some (.int (iI (x.1 (6 + f)))), some (.int (nI s3)), some (.int (nI (x.2 (6 + s3))))]) (sk' := []) (st' := ((mU s8.1 68 ((8 * (x.2 (6 + s3))) + s3) 1), s8.2)) (fun _ h => h) ?_
          exact ih s3 _ ((mU s8.1 68 ((8 * (x.2 (6 + s3))) + s3) 1), s8.2) hch3 hs3 hr3 hfl3 hend3 (MTk_w hT_9 hs3 (pI_t rfl).symm) hS_10 hD_11 hL_12 (Fr.trans hF_13 (Fr.mU (by decide)))
      refine w_blk 5 (pc' := 106) (ls' := [some (.ref 53), some (.int (nI r)), some (.int 0), some (.int (nI f)), some (.int (iI (x.1 (6 + f)))), some (.int (nI f)), l6]) (sk' := [.int (nI f), .ref 74]) (st' := s1) (fun _ h => h) ?_
      refine w_iald rfl rfl (vp_in_nI (n := f) (N := 8) (by omega) (by decide)) ?_
      rw [nI_clamp (show f < 2 ^ 31 by omega)]
      rw [(hL_5.2 f (by omega)).2.trans (eG_d hfd)]
      refine w_blk 6 (pc' := 118) (ls' := [some (.ref 53), some (.int (nI r)), some (.int 0), some (.int (nI f)), some (.int (iI (x.1 (6 + f)))), some (.int (nI f)), some (.int (nI (x.2 (6 + f))))]) (sk' := [.int (8 * (nI (x.2 (6 + f)))), .ref 68]) (st' := s1) (fun _ h => h) ?_
      rw [show (8 * (nI (x.2 (6 + f)))) = nI (8 * (x.2 (6 + f))) from pk_mul 8 (x.2 (6 + f))]
      refine w_blk 2 (pc' := 121) (ls' := [some (.ref 53), some (.int (nI r)), some (.int 0), some (.int (nI f)), some (.int (iI (x.1 (6 + f)))), some (.int (nI f)), some (.int (nI (x.2 (6 + f))))]) (sk' := [.int ((nI (8 * (x.2 (6 + f)))) + (nI f)), .ref 68]) (st' := s1) (fun _ h => h) ?_
      rw [show ((nI (8 * (x.2 (6 + f)))) + (nI f)) = nI ((8 * (x.2 (6 + f))) + f) from nI_add (8 * (x.2 (6 + f))) f]
      refine w_blk 1 (pc' := 122) (ls' := [some (.ref 53), some (.int (nI r)), some (.int 0), some (.int (nI f)), some (.int (iI (x.1 (6 + f)))), some (.int (nI f)), some (.int (nI (x.2 (6 + f))))]) (sk' := [.int 1, .int (nI ((8 * (x.2 (6 + f))) + f)), .ref 68]) (st' := s1) (fun _ h => h) ?_
      refine w_bast2 rfl rfl (vp_in_nI (n := ((8 * (x.2 (6 + f))) + f)) (N := 48) (by omega) (by decide)) (Or.inr rfl) ?_
      rw [nI_clamp (show ((8 * (x.2 (6 + f))) + f) < 2 ^ 31 by omega)]
      exact chain cn f T ((mU s1.1 68 ((8 * (x.2 (6 + f))) + f) 1), s1.2) hch hf8 hre hT2 hd0.symm (MTk_w hT_4 hf8 (pI_t rfl).symm) hS_2 hD_3 hL_5 (Fr.trans hF_6 (Fr.mU (by decide)))
  suffices key : ∀ (m k : Nat) (l5 l6 : Option Value), k + m = 8 → mW (mMC mT (d + 2)) (0, fun _ => 0) (mAtL P_X10_augment) (some .int) Q 12 [some (.ref 53), some (.int (nI r)), some (.int 0), some (.int (eO (bstO x T r k))), some (.int (nI k)), l5, l6] [] s1 from key 8 0 none none (by omega)
  intro m
  induction m with
  | zero =>
    intro k l5 l6 hk
    obtain rfl : k = 8 := by omega
    refine w_blk 2 (pc' := 16) (ls' := [some (.ref 53), some (.int (nI r)), some (.int 0), some (.int (eO (bstO x T r 8))), some (.int (nI 8)), l5, l6]) (sk' := [.int 8, .int (nI 8)]) (st' := s1) (fun _ h => h) ?_
    refine w_cmp_ge rfl (fun _ => ?_) (fun hno => absurd (Int32.le_refl _) hno)
    exact fin l5 l6
  | succ m ih =>
    intro k l5 l6 hk
    have hk8 : k < 8 := by omega
    have hSk := hS8 k hk8
    have hlk := hlab (6 + k)
    rcases e : bstO x T r k with _ | f
    · show mW (mMC mT (d + 2)) (0, fun _ => 0) (mAtL P_X10_augment) (some .int) Q 12 [some (.ref 53), some (.int (nI r)), some (.int 0), some (.int (-9)), some (.int (nI k)), l5, l6] [] s1
      refine w_blk 2 (pc' := 16) (ls' := [some (.ref 53), some (.int (nI r)), some (.int 0), some (.int (-9)), some (.int (nI k)), l5, l6]) (sk' := [.int 8, .int (nI k)]) (st' := s1) (fun _ h => h) ?_
      refine w_cmp_ge rfl (fun hno => absurd hno (nI_ge (a := k) (b := 8) (by omega) (by omega))) (fun _ => ?_)
      refine w_blk 3 (pc' := 25) (ls' := [some (.ref 53), some (.int (nI r)), some (.int 0), some (.int (-9)), some (.int (nI k)), l5, l6]) (sk' := [.int (nI k), .ref 70]) (st' := s1) (fun _ h => h) ?_
      refine w_iald rfl rfl (vp_in_nI (n := k) (N := 8) (by omega) (by decide)) ?_
      rw [nI_clamp (show k < 2 ^ 31 by omega)]
      rw [hH1.2 k (by omega)]
      refine w_blk 1 (pc' := 27) (ls' := [some (.ref 53), some (.int (nI r)), some (.int 0), some (.int (-9)), some (.int (nI k)), l5, l6]) (sk' := [.int (nI r), .int (nI (dS T k))]) (st' := s1) (fun _ h => h) ?_
      refine w_cmp_ge rfl (fun h1 => ?_) (fun h1 => ?_)
      · replace h1 : r ≤ dS T k := (nI_leI (a := r) (b := (dS T k)) (by omega) (by omega)).mp h1
        refine w_blk 1 (pc' := 68) (ls' := [some (.ref 53), some (.int (nI r)), some (.int 0), some (.int (-9)), some (.int ((nI k) + 1)), l5, l6]) (sk' := []) (st' := s1) (fun _ h => h) ?_
        rw [show ((nI k) + 1) = nI (k + 1) from nI_add k 1]
        refine w_blk 1 (pc' := 12) (ls' := [some (.ref 53), some (.int (nI r)), some (.int 0), some (.int (-9)), some (.int (nI (k + 1))), l5, l6]) (sk' := []) (st' := s1) (fun _ h => h) ?_
        exact (by have hh := ih (k + 1) l5 l6 (by omega); rw [show eO (bstO x T r (k + 1)) = (-9) from by first | exact congrArg eO ((b_no (fun hh => by omega)).trans e) | exact congrArg eO (b_new ⟨by omega, by omega⟩ e) | exact congrArg eO (b_les ⟨by omega, by omega⟩ e (by omega)) | exact congrArg eO (b_ge ⟨by omega, by omega⟩ e (by omega))] at hh; exact hh)
      · replace h1 : ¬ (r ≤ dS T k) := fun hh => h1 ((nI_leI (a := r) (b := (dS T k)) (by omega) (by omega)).mpr hh)
        refine w_blk 3 (pc' := 36) (ls' := [some (.ref 53), some (.int (nI r)), some (.int 0), some (.int (-9)), some (.int (nI k)), l5, l6]) (sk' := [.int (nI k), .ref 72]) (st' := s1) (fun _ h => h) ?_
        refine w_iald rfl rfl (vp_in_nI (n := k) (N := 8) (by omega) (by decide)) ?_
        rw [nI_clamp (show k < 2 ^ 31 by omega)]
        rw [(hL.2 k (by omega)).1]
        refine w_if_le rfl (fun h2 => ?_) (fun h2 => ?_)
        · replace h2 : x.1 (6 + k) ≤ (0 : Int) := by rw [iI_0] at h2; exact (iI_le (a := x.1 (6 + k)) (b := (0 : Int)) (by omega) (by omega) (by omega) (by omega)).mp h2
          refine w_blk 1 (pc' := 68) (ls' := [some (.ref 53), some (.int (nI r)), some (.int 0), some (.int (-9)), some (.int ((nI k) + 1)), l5, l6]) (sk' := []) (st' := s1) (fun _ h => h) ?_
          rw [show ((nI k) + 1) = nI (k + 1) from nI_add k 1]
          refine w_blk 1 (pc' := 12) (ls' := [some (.ref 53), some (.int (nI r)), some (.int 0), some (.int (-9)), some (.int (nI (k + 1))), l5, l6]) (sk' := []) (st' := s1) (fun _ h => h) ?_
          exact (by have hh := ih (k + 1) l5 l6 (by omega); rw [show eO (bstO x T r (k + 1)) = (-9) from by first | exact congrArg eO ((b_no (fun hh => by omega)).trans e) | exact congrArg eO (b_new ⟨by omega, by omega⟩ e) | exact congrArg eO (b_les ⟨by omega, by omega⟩ e (by omega)) | exact congrArg eO (b_ge ⟨by omega, by omega⟩ e (by omega))] at hh; exact hh)
        · replace h2 : ¬ (x.1 (6 + k) ≤ (0 : Int)) := fun hh => h2 (by rw [iI_0]; exact (iI_le (a := x.1 (6 + k)) (b := (0 : Int)) (by omega) (by omega) (by omega) (by omega)).mpr hh)
          refine w_blk 2 (pc' := 43) (ls' := [some (.ref 53), some (.int (nI r)), some (.int 0), some (.int (-9)), some (.int (nI k)), l5, l6]) (sk' := [.int (-9), .int (-9)]) (st' := s1) (fun _ h => h) ?_
          refine w_cmp_eq rfl (fun _ => ?_) (fun hno => absurd rfl hno)
          refine w_blk 3 (pc' := 68) (ls' := [some (.ref 53), some (.int (nI r)), some (.int 0), some (.int (nI k)), some (.int ((nI k) + 1)), l5, l6]) (sk' := []) (st' := s1) (fun _ h => h) ?_
          rw [show ((nI k) + 1) = nI (k + 1) from nI_add k 1]
          refine w_blk 1 (pc' := 12) (ls' := [some (.ref 53), some (.int (nI r)), some (.int 0), some (.int (nI k)), some (.int (nI (k + 1))), l5, l6]) (sk' := []) (st' := s1) (fun _ h => h) ?_
          exact (by have hh := ih (k + 1) l5 l6 (by omega); rw [show eO (bstO x T r (k + 1)) = (nI k) from by first | exact congrArg eO ((b_no (fun hh => by omega)).trans e) | exact congrArg eO (b_new ⟨by omega, by omega⟩ e) | exact congrArg eO (b_les ⟨by omega, by omega⟩ e (by omega)) | exact congrArg eO (b_ge ⟨by omega, by omega⟩ e (by omega))] at hh; exact hh)
    · have hfk := ((bstO_spec (x := x) (T := T) (r := r) k).2 f e).1
      have hlf := hlab (6 + f)
      show mW (mMC mT (d + 2)) (0, fun _ => 0) (mAtL P_X10_augment) (some .int) Q 12 [some (.ref 53), some (.int (nI r)), some (.int 0), some (.int (nI f)), some (.int (nI k)), l5, l6] [] s1
      refine w_blk 2 (pc' := 16) (ls' := [some (.ref 53), some (.int (nI r)), some (.int 0), some (.int (nI f)), some (.int (nI k)), l5, l6]) (sk' := [.int 8, .int (nI k)]) (st' := s1) (fun _ h => h) ?_
      refine w_cmp_ge rfl (fun hno => absurd hno (nI_ge (a := k) (b := 8) (by omega) (by omega))) (fun _ => ?_)
      refine w_blk 3 (pc' := 25) (ls' := [some (.ref 53), some (.int (nI r)), some (.int 0), some (.int (nI f)), some (.int (nI k)), l5, l6]) (sk' := [.int (nI k), .ref 70]) (st' := s1) (fun _ h => h) ?_
      refine w_iald rfl rfl (vp_in_nI (n := k) (N := 8) (by omega) (by decide)) ?_
      rw [nI_clamp (show k < 2 ^ 31 by omega)]
      rw [hH1.2 k (by omega)]
      refine w_blk 1 (pc' := 27) (ls' := [some (.ref 53), some (.int (nI r)), some (.int 0), some (.int (nI f)), some (.int (nI k)), l5, l6]) (sk' := [.int (nI r), .int (nI (dS T k))]) (st' := s1) (fun _ h => h) ?_
      refine w_cmp_ge rfl (fun h1 => ?_) (fun h1 => ?_)
      · replace h1 : r ≤ dS T k := (nI_leI (a := r) (b := (dS T k)) (by omega) (by omega)).mp h1
        refine w_blk 1 (pc' := 68) (ls' := [some (.ref 53), some (.int (nI r)), some (.int 0), some (.int (nI f)), some (.int ((nI k) + 1)), l5, l6]) (sk' := []) (st' := s1) (fun _ h => h) ?_
        rw [show ((nI k) + 1) = nI (k + 1) from nI_add k 1]
        refine w_blk 1 (pc' := 12) (ls' := [some (.ref 53), some (.int (nI r)), some (.int 0), some (.int (nI f)), some (.int (nI (k + 1))), l5, l6]) (sk' := []) (st' := s1) (fun _ h => h) ?_
        exact (by have hh := ih (k + 1) l5 l6 (by omega); rw [show eO (bstO x T r (k + 1)) = (nI f) from by first | exact congrArg eO ((b_no (fun hh => by omega)).trans e) | exact congrArg eO (b_new ⟨by omega, by omega⟩ e) | exact congrArg eO (b_les ⟨by omega, by omega⟩ e (by omega)) | exact congrArg eO (b_ge ⟨by omega, by omega⟩ e (by omega))] at hh; exact hh)
      · replace h1 : ¬ (r ≤ dS T k) := fun hh => h1 ((nI_leI (a := r) (b := (dS T k)) (by omega) (by omega)).mpr hh)
        refine w_blk 3 (pc' := 36) (ls' := [some (.ref 53), some (.int (nI r)), some (.int 0), some (.int (nI f)), some (.int (nI k)), l5, l6]) (sk' := [.int (nI k), .ref 72]) (st' := s1) (fun _ h => h) ?_
        refine w_iald rfl rfl (vp_in_nI (n := k) (N := 8) (by omega) (by decide)) ?_
        rw [nI_clamp (show k < 2 ^ 31 by omega)]
        rw [(hL.2 k (by omega)).1]
        refine w_if_le rfl (fun h2 => ?_) (fun h2 => ?_)
        · replace h2 : x.1 (6 + k) ≤ (0 : Int) := by rw [iI_0] at h2; exact (iI_le (a := x.1 (6 + k)) (b := (0 : Int)) (by omega) (by omega) (by omega) (by omega)).mp h2
          refine w_blk 1 (pc' := 68) (ls' := [some (.ref 53), some (.int (nI r)), some (.int 0), some (.int (nI f)), some (.int ((nI k) + 1)), l5, l6]) (sk' := []) (st' := s1) (fun _ h => h) ?_
          rw [show ((nI k) + 1) = nI (k + 1) from nI_add k 1]
          refine w_blk 1 (pc' := 12) (ls' := [some (.ref 53), some (.int (nI r)), some (.int 0), some (.int (nI f)), some (.int (nI (k + 1))), l5, l6]) (sk' := []) (st' := s1) (fun _ h => h) ?_
          exact (by have hh := ih (k + 1) l5 l6 (by omega); rw [show eO (bstO x T r (k + 1)) = (nI f) from by first | exact congrArg eO ((b_no (fun hh => by omega)).trans e) | exact congrArg eO (b_new ⟨by omega, by omega⟩ e) | exact congrArg eO (b_les ⟨by omega, by omega⟩ e (by omega)) | exact congrArg eO (b_ge ⟨by omega, by omega⟩ e (by omega))] at hh; exact hh)
        · replace h2 : ¬ (x.1 (6 + k) ≤ (0 : Int)) := fun hh => h2 (by rw [iI_0]; exact (iI_le (a := x.1 (6 + k)) (b := (0 : Int)) (by omega) (by omega) (by omega) (by omega)).mpr hh)
          refine w_blk 2 (pc' := 43) (ls' := [some (.ref 53), some (.int (nI r)), some (.int 0), some (.int (nI f)), some (.int (nI k)), l5, l6]) (sk' := [.int (-9), .int (nI f)]) (st' := s1) (fun _ h => h) ?_
          refine w_cmp_eq rfl (fun hno => absurd hno (fun hh => absurd (congrArg Int32.toInt hh) (by rw [nI_toInt (by omega), show (-9 : Int32).toInt = -9 from rfl]; omega))) (fun _ => ?_)
          refine w_blk 3 (pc' := 52) (ls' := [some (.ref 53), some (.int (nI r)), some (.int 0), some (.int (nI f)), some (.int (nI k)), l5, l6]) (sk' := [.int (nI k), .ref 72]) (st' := s1) (fun _ h => h) ?_
          refine w_iald rfl rfl (vp_in_nI (n := k) (N := 8) (by omega) (by decide)) ?_
          rw [nI_clamp (show k < 2 ^ 31 by omega)]
          rw [(hL.2 k (by omega)).1]
          refine w_blk 3 (pc' := 58) (ls' := [some (.ref 53), some (.int (nI r)), some (.int 0), some (.int (nI f)), some (.int (nI k)), l5, l6]) (sk' := [.int (nI f), .ref 72, .int (iI (x.1 (6 + k)))]) (st' := s1) (fun _ h => h) ?_
          refine w_iald rfl rfl (vp_in_nI (n := f) (N := 8) (by omega) (by decide)) ?_
          rw [nI_clamp (show f < 2 ^ 31 by omega)]
          rw [(hL.2 f (by omega)).1]
          refine w_cmp_le rfl (fun h3 => ?_) (fun h3 => ?_)
          · replace h3 : x.1 (6 + k) ≤ x.1 (6 + f) := by exact (iI_le (a := x.1 (6 + k)) (b := x.1 (6 + f)) (by omega) (by omega) (by omega) (by omega)).mp h3
            refine w_blk 1 (pc' := 68) (ls' := [some (.ref 53), some (.int (nI r)), some (.int 0), some (.int (nI f)), some (.int ((nI k) + 1)), l5, l6]) (sk' := []) (st' := s1) (fun _ h => h) ?_
            rw [show ((nI k) + 1) = nI (k + 1) from nI_add k 1]
            refine w_blk 1 (pc' := 12) (ls' := [some (.ref 53), some (.int (nI r)), some (.int 0), some (.int (nI f)), some (.int (nI (k + 1))), l5, l6]) (sk' := []) (st' := s1) (fun _ h => h) ?_
            exact (by have hh := ih (k + 1) l5 l6 (by omega); rw [show eO (bstO x T r (k + 1)) = (nI f) from by first | exact congrArg eO ((b_no (fun hh => by omega)).trans e) | exact congrArg eO (b_new ⟨by omega, by omega⟩ e) | exact congrArg eO (b_les ⟨by omega, by omega⟩ e (by omega)) | exact congrArg eO (b_ge ⟨by omega, by omega⟩ e (by omega))] at hh; exact hh)
          · replace h3 : ¬ (x.1 (6 + k) ≤ x.1 (6 + f)) := fun hh => h3 (by exact (iI_le (a := x.1 (6 + k)) (b := x.1 (6 + f)) (by omega) (by omega) (by omega) (by omega)).mpr hh)
            refine w_blk 3 (pc' := 68) (ls' := [some (.ref 53), some (.int (nI r)), some (.int 0), some (.int (nI k)), some (.int ((nI k) + 1)), l5, l6]) (sk' := []) (st' := s1) (fun _ h => h) ?_
            rw [show ((nI k) + 1) = nI (k + 1) from nI_add k 1]
            refine w_blk 1 (pc' := 12) (ls' := [some (.ref 53), some (.int (nI r)), some (.int 0), some (.int (nI k)), some (.int (nI (k + 1))), l5, l6]) (sk' := []) (st' := s1) (fun _ h => h) ?_
            exact (by have hh := ih (k + 1) l5 l6 (by omega); rw [show eO (bstO x T r (k + 1)) = (nI k) from by first | exact congrArg eO ((b_no (fun hh => by omega)).trans e) | exact congrArg eO (b_new ⟨by omega, by omega⟩ e) | exact congrArg eO (b_les ⟨by omega, by omega⟩ e (by omega)) | exact congrArg eO (b_ge ⟨by omega, by omega⟩ e (by omega))] at hh; exact hh)
