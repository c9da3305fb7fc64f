/-! HARVEST: a chain followed; most of the class -/
theorem tbs_t {T : EdT} {d s : Nat} (hs : s < 8) : tbs (stT T d s true) d = tbs T d ||| 2 ^ s := by
  apply Nat.eq_of_testBit_eq
  intro i
  apply Bool.eq_iff_iff.mpr
  rw [tbs_bit, tb_or, tbs_bit]
  by_cases e : i = s
  · subst e
    rw [stT_s]
    exact ⟨fun _ => Or.inr rfl, fun _ => ⟨hs, rfl⟩⟩
  · rw [stT_n (fun h => e h.2)]
    exact ⟨fun h => Or.inl h, fun h => h.elim id (fun h9 => absurd h9 e)⟩
theorem tbs_f {T : EdT} {d s : Nat} (hs : s < 8) : nI (tbs T d) &&& (nI (2 ^ s) ^^^ (-1)) = nI (tbs (stT T d s false) d) := by
  rw [nI_m1, nI_xor, nI_and]
  refine congrArg nI ?_
  apply Nat.eq_of_testBit_eq
  intro i
  apply Bool.eq_iff_iff.mpr
  rw [tbs_bit, Nat.testBit_and, Bool.and_eq_true, tbs_bit]
  have hx : ∀ s, s < 8 → ∀ i, i < 8 → ((2 ^ s ^^^ 4294967295).testBit i = true ↔ i ≠ s) := by decide
  constructor
  · rintro ⟨⟨h1, h2⟩, h3⟩
    have h4 := (hx s hs i h1).mp h3
    exact ⟨h1, by rw [stT_n (fun h => h4 h.2)]; exact h2⟩
  · rintro ⟨h1, h2⟩
    by_cases e : i = s
    · rw [e, stT_s] at h2
      exact absurd h2 Bool.false_ne_true
    · rw [stT_n (fun h => e h.2)] at h2
      exact ⟨⟨h1, h2⟩, (hx s hs i h1).mpr e⟩
theorem tbs_o {T : EdT} {d d' s : Nat} {b : Bool} (h : d' ≠ d) : tbs (stT T d s b) d' = tbs T d' := by
  unfold tbs
  rw [show (fun x => stT T d s b d' x) = (fun x => T d' x) from funext (fun x => stT_n (fun e => h e.1))]
theorem XTk_row {st : mSt} {T T' : EdT} {d : Nat} (h : XTk st T) (ho : ∀ d', d' ≠ d → tbs T' d' = tbs T d') : XTk (mU st.1 36 d (nI (tbs T' d)), st.2) T' := by
  intro k hk
  show mU st.1 36 d (nI (tbs T' d)) 36 k = _
  by_cases e : k = d
  · subst e
    exact mU_at
  · rw [ho k e]
    exact (mU_row e).trans (h k hk)
theorem tbs_e (d : Nat) : tbs (fun _ _ => false) d = 0 := by
  apply Nat.eq_of_testBit_eq
  intro i
  rw [Nat.zero_testBit]
  exact Bool.eq_false_iff.mpr (fun h => absurd (tbs_bit.mp h).2 Bool.false_ne_true)
set_option maxRecDepth 20000 in
/-- follow(last) -/
theorem c_follow (d : Nat) (n : Nat → Nat) (T E T2 : EdT) (w9 : Nat → Nat → Int) (p : Nat → Int) (r nd cn f : Nat) (x : LabT) (t : Nat → Nat) (st : mSt) (hn : n 0 ≤ 6) (hF : FIX (fA T E w9) p (srcF T r nd) x t) (hL : XLb st n x) (hT : XTk st T) (hD : XLd st T) (hf8 : f < 8) (hre : x.1 (6 + f) ≠ NOi) (hcn : cn ≤ 5) (hch : CH x.2 cn f) (hT2 : fl x.2 cn f T = T2) (hSf : dS T f ≤ 8) (hdS : ∀ y, y < 8 → dS T2 y = dS T y + (if y = f then 1 else 0)) : ∃ (s : mSt), mMC mT (d + 3) 38 [.ref 34, .int (nI f)] st (none) s ∧ XTk s T2 ∧ XLd s T2 ∧ Fr [36, 37] st s := by
  suffices H : ∀ Q : Option Value → mSt → Prop, (∀ (s : mSt), (XTk s T2 ∧ XLd s T2 ∧ Fr [36, 37] st s) → Q (none) s) → mW (mMC mT (d + 2)) (0, fun _ => 0) (mAtL P_X2_follow) none Q 0 [some (.ref 34), some (.int (nI f)), none, none, none, none, none] [] st by
    obtain ⟨_, _, ⟨s, rfl, rfl, hp⟩, hw⟩ := mW_ex (H (fun vv tt => ∃ (s : mSt),  vv = none ∧ s = tt ∧ XTk s T2 ∧ XLd s T2 ∧ Fr [36, 37] st s) (fun s hp => ⟨s, rfl, rfl, hp⟩))
    exact ⟨s, mI_X2_follow (d := d + 2) (Nat.le_of_ble_eq_true rfl) hw, hp⟩
  intro Q hq
  refine w_blk 6 (pc' := 10) (ls' := [some (.ref 34), some (.int (nI f)), none, none, none, none, none]) (sk' := [.int (nI f), .ref 37, .int (nI f), .ref 37]) (st' := st) (fun _ h => h) ?_
  refine w_callS (As := [.ref 37, .int (nI f)]) (rest := [.int (nI f), .ref 37]) rfl rfl rfl (Nat.le_of_ble_eq_true rfl) (Nat.le_of_ble_eq_true rfl) (c_cellK (d + 1) 37 8 f st (by omega) (by decide) rfl) ?_
  rw [hD f (by omega)]
  refine w_blk 2 (pc' := 15) (ls' := [some (.ref 34), some (.int (nI f)), none, none, none, none, none]) (sk' := [.int ((nI (dS T f)) + 1), .int (nI f), .ref 37]) (st' := st) (fun _ h => h) ?_
  rw [show ((nI (dS T f)) + 1) = nI ((dS T f) + 1) from nI_add (dS T f) 1]
  refine w_callS (As := [.ref 37, .int (nI f), .int (nI ((dS T f) + 1))]) (rest := []) rfl rfl rfl (Nat.le_of_ble_eq_true rfl) (Nat.le_of_ble_eq_true rfl) (c_putK (d + 1) 37 8 f (nI ((dS T f) + 1)) st (by omega) (by decide) rfl) ?_
  have hD_2 : XLd ((mU st.1 37 f (nI ((dS T f) + 1))), st.2) T2 := (fun y hy => if ey : y = f then (by rw [hdS y hy, if_pos ey, ey]; exact mU_at (f := st.1) (p := 37) (k := f)) else (by rw [hdS y hy, if_neg ey, Nat.add_zero]; exact (mU_row ey).trans (hD y hy)))
  have hT_3 : XTk ((mU st.1 37 f (nI ((dS T f) + 1))), st.2) T := hT
  have hL_4 : XLb ((mU st.1 37 f (nI ((dS T f) + 1))), st.2) n x := hL
  have hF_5 : Fr [36, 37] st ((mU st.1 37 f (nI ((dS T f) + 1))), st.2) := (Fr.trans Fr.rf (Fr.mU (by decide)))
  generalize ((mU st.1 37 f (nI ((dS T f) + 1))), st.2) = s1 at hD_2 hT_3 hL_4 hF_5 ⊢
  refine w_blk 4 (pc' := 22) (ls' := [some (.ref 34), some (.int (nI f)), some (.int (nI f)), some (.int 0), none, none, none]) (sk' := []) (st' := s1) (fun _ h => h) ?_
  suffices key : ∀ (m l s' : Nat) (T1 : EdT) (s2 : mSt) (l4 l5 l6 : Option Value), l + m ≤ 5 → CH x.2 m s' → s' < 8 → x.1 (6 + s') ≠ NOi → fl x.2 m s' T1 = T2 → XTk s2 T1 → XLd s2 T2 → XLb s2 n x → Fr [36, 37] st s2 → mW (mMC mT (d + 2)) (0, fun _ => 0) (mAtL P_X2_follow) none Q 22 [some (.ref 34), some (.int (nI f)), some (.int (nI s')), some (.int (nI l)), l4, l5, l6] [] s2 from key cn 0 f T _ none none none (by omega) hch hf8 hre hT2 hT_3 hD_2 hL_4 hF_5
  intro m
  induction m with
  | zero =>
    intro l s' T1 s2 l4 l5 l6 hlm hch2 hs' hr' hfl hT3 hD3 hL3 hF3
    obtain ⟨hfd', hdr', -⟩ := FIX_S hF hs' hr'
    have htb := tbs_256 T1 (x.2 (6 + s'))
    have h41 : s2.1 41 s' = nI (x.2 (6 + s')) := hL3.2.2.2 s' hs' hr'
    have h40 := hL3.2.2.1 (x.2 (6 + s')) hfd'
    have h99 : x.2 (x.2 (6 + s')) = 99 := hch2
    have h40e : s2.1 40 (x.2 (6 + s')) = -9 := h40.trans (by rw [h99]; rfl)
    have hfl0 : stT T1 (x.2 (6 + s')) s' true = T2 := hfl
    refine w_blk 2 (pc' := 25) (ls' := [some (.ref 34), some (.int (nI f)), some (.int (nI s')), some (.int (nI l)), l4, l5, l6]) (sk' := [.int 6, .int (nI l)]) (st' := s2) (fun _ h => h) ?_
    refine w_cmp_gt rfl (fun hno => absurd hno (fun hh => absurd ((nI_ltI (a := 6) (b := l) (by omega) (by omega)).mp hh) (by omega))) (fun _ => ?_)
    refine w_blk 1 (pc' := 29) (ls' := [some (.ref 34), some (.int (nI f)), some (.int (nI s')), some (.int (nI l)), l4, l5, l6]) (sk' := [.int (nI s')]) (st' := s2) (fun _ h => h) ?_
    refine w_if_lt rfl (fun hno => absurd hno (fun hh => absurd ((nI_ltI (a := s') (b := 0) (by omega) (by omega)).mp hh) (by omega))) (fun _ => ?_)
    refine w_blk 3 (pc' := 37) (ls' := [some (.ref 34), some (.int (nI f)), some (.int (nI s')), some (.int (nI l)), l4, l5, l6]) (sk' := [.int (nI s'), .ref 41]) (st' := s2) (fun _ h => h) ?_
    refine w_callS (As := [.ref 41, .int (nI s')]) (rest := []) rfl rfl rfl (Nat.le_of_ble_eq_true rfl) (Nat.le_of_ble_eq_true rfl) (c_cellK (d + 1) 41 8 s' s2 (by omega) (by decide) rfl) ?_
    rw [h41]
    refine w_blk 4 (pc' := 48) (ls' := [some (.ref 34), some (.int (nI f)), some (.int (nI s')), some (.int (nI l)), some (.int (nI (x.2 (6 + s')))), l5, l6]) (sk' := [.int (nI (x.2 (6 + s'))), .ref 40]) (st' := s2) (fun _ h => h) ?_
    refine w_callS (As := [.ref 40, .int (nI (x.2 (6 + s')))]) (rest := []) rfl rfl rfl (Nat.le_of_ble_eq_true rfl) (Nat.le_of_ble_eq_true rfl) (c_cellK (d + 1) 40 6 (x.2 (6 + s')) s2 (by omega) (by decide) rfl) ?_
    rw [h40e]
    refine w_blk 4 (pc' := 59) (ls' := [some (.ref 34), some (.int (nI f)), some (.int (nI s')), some (.int (nI l)), some (.int (nI (x.2 (6 + s')))), some (.int (-9)), l6]) (sk' := [.int (nI (x.2 (6 + s'))), .ref 36]) (st' := s2) (fun _ h => h) ?_
    refine w_callS (As := [.ref 36, .int (nI (x.2 (6 + s')))]) (rest := []) rfl rfl rfl (Nat.le_of_ble_eq_true rfl) (Nat.le_of_ble_eq_true rfl) (c_cellK (d + 1) 36 6 (x.2 (6 + s')) s2 (by omega) (by decide) rfl) ?_
    rw [hT3 (x.2 (6 + s')) (by omega)]
    refine w_blk 3 (pc' := 65) (ls' := [some (.ref 34), some (.int (nI f)), some (.int (nI s')), some (.int (nI l)), some (.int (nI (x.2 (6 + s')))), some (.int (-9)), l6]) (sk' := [.int (1 <<< ((nI s') &&& 31)), .int (nI (tbs T1 (x.2 (6 + s'))))]) (st' := s2) (fun _ h => h) ?_
    rw [show (1 <<< ((nI s') &&& 31)) = nI (2 ^ s') from nI_shl1 (by omega)]
    refine w_blk 1 (pc' := 66) (ls' := [some (.ref 34), some (.int (nI f)), some (.int (nI s')), some (.int (nI l)), some (.int (nI (x.2 (6 + s')))), some (.int (-9)), l6]) (sk' := [.int ((nI (tbs T1 (x.2 (6 + s')))) ||| (nI (2 ^ s')))]) (st' := s2) (fun _ h => h) ?_
    rw [show ((nI (tbs T1 (x.2 (6 + s')))) ||| (nI (2 ^ s'))) = nI ((tbs T1 (x.2 (6 + s'))) ||| (2 ^ s')) from nI_or (tbs T1 (x.2 (6 + s'))) (2 ^ s')]
    refine w_blk 5 (pc' := 76) (ls' := [some (.ref 34), some (.int (nI f)), some (.int (nI s')), some (.int (nI l)), some (.int (nI (x.2 (6 + s')))), some (.int (-9)), some (.int (nI ((tbs T1 (x.2 (6 + s'))) ||| (2 ^ s'))))]) (sk' := [.int (-9), .int (nI (x.2 (6 + s'))), .ref 36]) (st' := s2) (fun _ h => h) ?_
    refine w_if_ge rfl (fun hno => absurd hno (by decide)) (fun _ => ?_)
    refine w_blk 2 (pc' := 93) (ls' := [some (.ref 34), some (.int (nI f)), some (.int (nI s')), some (.int (nI l)), some (.int (nI (x.2 (6 + s')))), some (.int (-9)), some (.int (nI ((tbs T1 (x.2 (6 + s'))) ||| (2 ^ s'))))]) (sk' := [.int (nI ((tbs T1 (x.2 (6 + s'))) ||| (2 ^ s'))), .int (nI (x.2 (6 + s'))), .ref 36]) (st' := s2) (fun _ h => h) ?_
    rw [show (nI (tbs T1 (x.2 (6 + s')) ||| 2 ^ s')) = nI (tbs T2 (x.2 (6 + s'))) from by rw [← hfl0, tbs_t hs']]
    refine w_callS (As := [.ref 36, .int (nI (x.2 (6 + s'))), .int (nI (tbs T2 (x.2 (6 + s'))))]) (rest := []) rfl rfl rfl (Nat.le_of_ble_eq_true rfl) (Nat.le_of_ble_eq_true rfl) (c_putK (d + 1) 36 6 (x.2 (6 + s')) (nI (tbs T2 (x.2 (6 + s')))) s2 (by omega) (by decide) rfl) ?_
    refine w_blk 3 (pc' := 102) (ls' := [some (.ref 34), some (.int (nI f)), some (.int (-9)), some (.int ((nI l) + 1)), some (.int (nI (x.2 (6 + s')))), some (.int (-9)), some (.int (nI (tbs T2 (x.2 (6 + s')))))]) (sk' := []) (st' := ((mU s2.1 36 (x.2 (6 + s')) (nI (tbs T2 (x.2 (6 + s'))))), s2.2)) (fun _ h => h) ?_
    rw [show ((nI l) + 1) = nI (l + 1) from nI_add l 1]
    refine w_blk 1 (pc' := 22) (ls' := [some (.ref 34), some (.int (nI f)), some (.int (-9)), some (.int (nI (l + 1))), some (.int (nI (x.2 (6 + s')))), some (.int (-9)), some (.int (nI (tbs T2 (x.2 (6 + s')))))]) (sk' := []) (st' := ((mU s2.1 36 (x.2 (6 + s')) (nI (tbs T2 (x.2 (6 + s'))))), s2.2)) (fun _ h => h) ?_
    refine w_blk 2 (pc' := 25) (ls' := [some (.ref 34), some (.int (nI f)), some (.int (-9)), some (.int (nI (l + 1))), some (.int (nI (x.2 (6 + s')))), some (.int (-9)), some (.int (nI (tbs T2 (x.2 (6 + s')))))]) (sk' := [.int 6, .int (nI (l + 1))]) (st' := ((mU s2.1 36 (x.2 (6 + s')) (nI (tbs T2 (x.2 (6 + s'))))), s2.2)) (fun _ h => h) ?_
    refine w_cmp_gt rfl (fun hno => absurd hno (fun hh => absurd ((nI_ltI (a := 6) (b := l + 1) (by omega) (by omega)).mp hh) (by omega))) (fun _ => ?_)
    refine w_blk 1 (pc' := 29) (ls' := [some (.ref 34), some (.int (nI f)), some (.int (-9)), some (.int (nI (l + 1))), some (.int (nI (x.2 (6 + s')))), some (.int (-9)), some (.int (nI (tbs T2 (x.2 (6 + s')))))]) (sk' := [.int (-9)]) (st' := ((mU s2.1 36 (x.2 (6 + s')) (nI (tbs T2 (x.2 (6 + s'))))), s2.2)) (fun _ h => h) ?_
    refine w_if_lt rfl (fun _ => ?_) (fun hno => absurd (by decide) hno)
    exact w_vret rfl rfl (hq _ ⟨XTk_row hT3 (fun d' hd' => by rw [← hfl0]; exact tbs_o hd'), hD3, Fr.trans hF3 (Fr.mU (by decide))⟩)
  | succ m ih =>
    intro l s' T1 s2 l4 l5 l6 hlm hch2 hs' hr' hfl hT3 hD3 hL3 hF3
    obtain ⟨hfd', hdr', -⟩ := FIX_S hF hs' hr'
    have htb := tbs_256 T1 (x.2 (6 + s'))
    have h41 : s2.1 41 s' = nI (x.2 (6 + s')) := hL3.2.2.2 s' hs' hr'
    have h40 := hL3.2.2.1 (x.2 (6 + s')) hfd'
    obtain ⟨s3, hs3, hc3, hch3⟩ := hch2
    have hd3 := FIX_D hF hfd' hdr'
    have hr3 : x.1 (6 + s3) ≠ NOi := by
      rcases hd3 with ⟨-, -, h9⟩ | ⟨s4, hs4, h9, h10, -⟩
      · omega
      · obtain rfl : s3 = s4 := by omega
        exact h10
    have hfl3 : fl x.2 m s3 (stT (stT T1 (x.2 (6 + s')) s' true) (x.2 (6 + s')) s3 false) = T2 := by
      have h9 : fl x.2 m (x.2 (x.2 (6 + s')) - 6) (stT (stT T1 (x.2 (6 + s')) s' true) (x.2 (6 + s')) (x.2 (x.2 (6 + s')) - 6) false) = T2 := hfl
      rw [hc3, Nat.add_sub_cancel_left] at h9
      exact h9
    have h40e : s2.1 40 (x.2 (6 + s')) = nI s3 := h40.trans (by rw [hc3]; exact eF_s hs3)
    refine w_blk 2 (pc' := 25) (ls' := [some (.ref 34), some (.int (nI f)), some (.int (nI s')), some (.int (nI l)), l4, l5, l6]) (sk' := [.int 6, .int (nI l)]) (st' := s2) (fun _ h => h) ?_
    refine w_cmp_gt rfl (fun hno => absurd hno (fun hh => absurd ((nI_ltI (a := 6) (b := l) (by omega) (by omega)).mp hh) (by omega))) (fun _ => ?_)
    refine w_blk 1 (pc' := 29) (ls' := [some (.ref 34), some (.int (nI f)), some (.int (nI s')), some (.int (nI l)), l4, l5, l6]) (sk' := [.int (nI s')]) (st' := s2) (fun _ h => h) ?_
    refine w_if_lt rfl (fun hno => absurd hno (fun hh => absurd ((nI_ltI (a := s') (b := 0) (by omega) (by omega)).mp hh) (by omega))) (fun _ => ?_)
    refine w_blk 3 (pc' := 37) (ls' := [some (.ref 34), some (.int (nI f)), some (.int (nI s')), some (.int (nI l)), l4, l5, l6]) (sk' := [.int (nI s'), .ref 41]) (st' := s2) (fun _ h => h) ?_
    refine w_callS (As := [.ref 41, .int (nI s')]) (rest := []) rfl rfl rfl (Nat.le_of_ble_eq_true rfl) (Nat.le_of_ble_eq_true rfl) (c_cellK (d + 1) 41 8 s' s2 (by omega) (by decide) rfl) ?_
    rw [h41]
    refine w_blk 4 (pc' := 48) (ls' := [some (.ref 34), some (.int (nI f)), some (.int (nI s')), some (.int (nI l)), some (.int (nI (x.2 (6 + s')))), l5, l6]) (sk' := [.int (nI (x.2 (6 + s'))), .ref 40]) (st' := s2) (fun _ h => h) ?_
    refine w_callS (As := [.ref 40, .int (nI (x.2 (6 + s')))]) (rest := []) rfl rfl rfl (Nat.le_of_ble_eq_true rfl) (Nat.le_of_ble_eq_true rfl) (c_cellK (d + 1) 40 6 (x.2 (6 + s')) s2 (by omega) (by decide) rfl) ?_
    rw [h40e]
    refine w_blk 4 (pc' := 59) (ls' := [some (.ref 34), some (.int (nI f)), some (.int (nI s')), some (.int (nI l)), some (.int (nI (x.2 (6 + s')))), some (.int (nI s3)), l6]) (sk' := [.int (nI (x.2 (6 + s'))), .ref 36]) (st' := s2) (fun _ h => h) ?_
    refine w_callS (As := [.ref 36, .int (nI (x.2 (6 + s')))]) (rest := []) rfl rfl rfl (Nat.le_of_ble_eq_true rfl) (Nat.le_of_ble_eq_true rfl) (c_cellK (d + 1) 36 6 (x.2 (6 + s')) s2 (by omega) (by decide) rfl) ?_
    rw [hT3 (x.2 (6 + s')) (by omega)]
    refine w_blk 3 (pc' := 65) (ls' := [some (.ref 34), some (.int (nI f)), some (.int (nI s')), some (.int (nI l)), some (.int (nI (x.2 (6 + s')))), some (.int (nI s3)), l6]) (sk' := [.int (1 <<< ((nI s') &&& 31)), .int (nI (tbs T1 (x.2 (6 + s'))))]) (st' := s2) (fun _ h => h) ?_
    rw [show (1 <<< ((nI s') &&& 31)) = nI (2 ^ s') from nI_shl1 (by omega)]
    refine w_blk 1 (pc' := 66) (ls' := [some (.ref 34), some (.int (nI f)), some (.int (nI s')), some (.int (nI l)), some (.int (nI (x.2 (6 + s')))), some (.int (nI s3)), l6]) (sk' := [.int ((nI (tbs T1 (x.2 (6 + s')))) ||| (nI (2 ^ s')))]) (st' := s2) (fun _ h => h) ?_
    rw [show ((nI (tbs T1 (x.2 (6 + s')))) ||| (nI (2 ^ s'))) = nI ((tbs T1 (x.2 (6 + s'))) ||| (2 ^ s')) from nI_or (tbs T1 (x.2 (6 + s'))) (2 ^ s')]
    refine w_blk 5 (pc' := 76) (ls' := [some (.ref 34), some (.int (nI f)), some (.int (nI s')), some (.int (nI l)), some (.int (nI (x.2 (6 + s')))), some (.int (nI s3)), some (.int (nI ((tbs T1 (x.2 (6 + s'))) ||| (2 ^ s'))))]) (sk' := [.int (nI s3), .int (nI (x.2 (6 + s'))), .ref 36]) (st' := s2) (fun _ h => h) ?_
    refine w_if_ge rfl (fun _ => ?_) (fun hno => absurd (nI_pos' (by omega)) hno)
    refine w_blk 4 (pc' := 90) (ls' := [some (.ref 34), some (.int (nI f)), some (.int (nI s')), some (.int (nI l)), some (.int (nI (x.2 (6 + s')))), some (.int (nI s3)), some (.int (nI ((tbs T1 (x.2 (6 + s'))) ||| (2 ^ s'))))]) (sk' := [.int (1 <<< ((nI s3) &&& 31)), .int (nI ((tbs T1 (x.2 (6 + s'))) ||| (2 ^ s'))), .int (nI (x.2 (6 + s'))), .ref 36]) (st' := s2) (fun _ h => h) ?_
    rw [show (1 <<< ((nI s3) &&& 31)) = nI (2 ^ s3) from nI_shl1 (by omega)]
    refine w_blk 3 (pc' := 93) (ls' := [some (.ref 34), some (.int (nI f)), some (.int (nI s')), some (.int (nI l)), some (.int (nI (x.2 (6 + s')))), some (.int (nI s3)), some (.int (nI ((tbs T1 (x.2 (6 + s'))) ||| (2 ^ s'))))]) (sk' := [.int ((nI ((tbs T1 (x.2 (6 + s'))) ||| (2 ^ s'))) &&& ((nI (2 ^ s3)) ^^^ (-1))), .int (nI (x.2 (6 + s'))), .ref 36]) (st' := s2) (fun _ h => h) ?_
    rw [show ((nI ((tbs T1 (x.2 (6 + s'))) ||| (2 ^ s'))) &&& ((nI (2 ^ s3)) ^^^ (-1))) = nI (tbs (stT (stT T1 (x.2 (6 + s')) s' true) (x.2 (6 + s')) s3 false) (x.2 (6 + s'))) from by rw [← tbs_t hs']; exact tbs_f hs3]
    refine w_callS (As := [.ref 36, .int (nI (x.2 (6 + s'))), .int (nI (tbs (stT (stT T1 (x.2 (6 + s')) s' true) (x.2 (6 + s')) s3 false) (x.2 (6 + s'))))]) (rest := []) rfl rfl rfl (Nat.le_of_ble_eq_true rfl) (Nat.le_of_ble_eq_true rfl) (c_putK (d + 1) 36 6 (x.2 (6 + s')) (nI (tbs (stT (stT T1 (x.2 (6 + s')) s' true) (x.2 (6 + s')) s3 false) (x.2 (6 + s')))) s2 (by omega) (by decide) rfl) ?_
    refine w_blk 3 (pc' := 102) (ls' := [some (.ref 34), some (.int (nI f)), some (.int (nI s3)), some (.int ((nI l) + 1)), some (.int (nI (x.2 (6 + s')))), some (.int (nI s3)), some (.int (nI ((tbs T1 (x.2 (6 + s'))) ||| (2 ^ s'))))]) (sk' := []) (st' := ((mU s2.1 36 (x.2 (6 + s')) (nI (tbs (stT (stT T1 (x.2 (6 + s')) s' true) (x.2 (6 + s')) s3 false) (x.2 (6 + s'))))), s2.2)) (fun _ h => h) ?_
    rw [show ((nI l) + 1) = nI (l + 1) from nI_add l 1]
    refine w_blk 1 (pc' := 22) (ls' := [some (.ref 34), some (.int (nI f)), some (.int (nI s3)), some (.int (nI (l + 1))), some (.int (nI (x.2 (6 + s')))), some (.int (nI s3)), some (.int (nI ((tbs T1 (x.2 (6 + s'))) ||| (2 ^ s'))))]) (sk' := []) (st' := ((mU s2.1 36 (x.2 (6 + s')) (nI (tbs (stT (stT T1 (x.2 (6 + s')) s' true) (x.2 (6 + s')) s3 false) (x.2 (6 + s'))))), s2.2)) (fun _ h => h) ?_
    exact ih (l + 1) s3 (stT (stT T1 (x.2 (6 + s')) s' true) (x.2 (6 + s')) s3 false) ((mU s2.1 36 (x.2 (6 + s')) (nI (tbs (stT (stT T1 (x.2 (6 + s')) s' true) (x.2 (6 + s')) s3 false) (x.2 (6 + s'))))), s2.2) _ _ _ (by omega) hch3 hs3 hr3 hfl3 (XTk_row hT3 (fun d' hd' => (tbs_o hd').trans (tbs_o hd'))) hD3 hL3 (Fr.trans hF3 (Fr.mU (by decide)))
set_option maxRecDepth 20000 in
/-- look(crew, present) -/
theorem c_lookH_5 (d : Nat) (n : Nat → Nat) (c : Nat → Nat → Nat) (v : Nat → Int32) (u : Nat → Nat) (yd : Nat) (st : mSt) (hX : X5 st n c) (hB : CB n c) (hN : N21 st v u yd) (hU : ∀ j, 3 ≤ j → j < 12 → u j < 256) : ∃ (s : mSt), mMC mT (d + 4) 32 [.ref 34, .ref 5, .ref 21] st (none) s ∧ XOp s (EN n c u) ∧ XTk s (fun _ _ => false) ∧ XLd s (fun _ _ => false) ∧ Fr [35, 36, 37] st s := by
  suffices H : ∀ Q : Option Value → mSt → Prop, (∀ (s : mSt), (XOp s (EN n c u) ∧ XTk s (fun _ _ => false) ∧ XLd s (fun _ _ => false) ∧ Fr [35, 36, 37] st s) → Q (none) s) → mW (mMC mT (d + 3)) (0, fun _ => 0) (mAtL P_X2_look) none Q 0 [some (.ref 34), some (.ref 5), some (.ref 21), none, none, none] [] st by
    obtain ⟨_, _, ⟨s, rfl, rfl, hp⟩, hw⟩ := mW_ex (H (fun vv tt => ∃ (s : mSt),  vv = none ∧ s = tt ∧ XOp s (EN n c u) ∧ XTk s (fun _ _ => false) ∧ XLd s (fun _ _ => false) ∧ Fr [35, 36, 37] st s) (fun s hp => ⟨s, rfl, rfl, hp⟩))
    exact ⟨s, mI_X2_look (d := d + 3) (Nat.le_of_ble_eq_true rfl) hw, hp⟩
  intro Q hq
  obtain ⟨hb0, hb1, hb2, hbd, hbs, hby⟩ := id hB
  refine w_blk 2 (pc' := 2) (ls' := [some (.ref 34), some (.ref 5), some (.ref 21), some (.int 0), none, none]) (sk' := []) (st' := st) (fun _ h => h) ?_
  suffices key : ∀ (m d0 : Nat) (s0 : mSt) (l4 l5 : Option Value), d0 + m = 6 → Fr [35, 36, 37] st s0 → (∀ j, j < d0 → s0.1 35 j = nI (tbs (EN n c u) j)) → mW (mMC mT (d + 3)) (0, fun _ => 0) (mAtL P_X2_look) none Q 2 [some (.ref 34), some (.ref 5), some (.ref 21), some (.int (nI d0)), l4, l5] [] s0 from key 6 0 st none none (by omega) Fr.rf (fun j hj => absurd hj (by omega))
  intro m
  induction m with
  | zero =>
    intro d0 s0 l4 l5 hd hf hz
    obtain rfl : d0 = 6 := by omega
    refine w_blk 4 (pc' := 8) (ls' := [some (.ref 34), some (.ref 5), some (.ref 21), some (.int (nI 6)), l4, l5]) (sk' := [.int (Int32.ofNat 6), .int (nI 6)]) (st' := s0) (fun _ h => h) ?_
    rw [show (Int32.ofNat 6) = nI 6 from rfl]
    refine w_cmp_ge rfl (fun _ => ?_) (fun hno => absurd (Int32.le_refl _) hno)
    refine w_blk 3 (pc' := 79) (ls' := [some (.ref 34), some (.ref 5), some (.ref 21), some (.int (nI 6)), l4, l5]) (sk' := [.int 0, .ref 36]) (st' := s0) (fun _ h => h) ?_
    refine w_callS (As := [.ref 36, .int 0]) (rest := []) rfl rfl rfl (Nat.le_of_ble_eq_true rfl) (Nat.le_of_ble_eq_true rfl) (c_fill (d + 2) 36 6 0 s0 (by decide) rfl) ?_
    have hA1 : Fr [35, 36, 37] st (filU s0.1 36 6 0, s0.2) := Fr.trans hf (Fr.fil (by decide))
    have hA2 : ∀ j, j < 6 → (filU s0.1 36 6 0) 35 j = nI (tbs (EN n c u) j) := fun j hj => (congrFun (filU_ne (by decide)) j).trans (hz j hj)
    have hA3 : ∀ j, j < 6 → (filU s0.1 36 6 0) 36 j = 0 := fun j hj => filU_at hj
    generalize hs4 : ((filU s0.1 36 6 0, s0.2) : mSt) = s4 at hA1 ⊢
    have hA2 : ∀ j, j < 6 → s4.1 35 j = nI (tbs (EN n c u) j) := fun j hj => by rw [← hs4]; exact hA2 j hj
    have hA3 : ∀ j, j < 6 → s4.1 36 j = 0 := fun j hj => by rw [← hs4]; exact hA3 j hj
    refine w_blk 3 (pc' := 87) (ls' := [some (.ref 34), some (.ref 5), some (.ref 21), some (.int (nI 6)), l4, l5]) (sk' := [.int 0, .ref 37]) (st' := s4) (fun _ h => h) ?_
    refine w_callS (As := [.ref 37, .int 0]) (rest := []) rfl rfl rfl (Nat.le_of_ble_eq_true rfl) (Nat.le_of_ble_eq_true rfl) (c_fill (d + 2) 37 8 0 s4 (by decide) rfl) ?_
    exact w_vret rfl rfl (hq (filU s4.1 37 8 0, s4.2) ⟨fun j hj => (congrFun (filU_ne (f := s4.1) (a := 37) (n := 8) (q := 35) (x := 0) (by decide)) j).trans (hA2 j hj), fun j hj => ((congrFun (filU_ne (f := s4.1) (a := 37) (n := 8) (q := 36) (x := 0) (by decide)) j).trans (hA3 j hj)).trans (by rw [tbs_e]; rfl), fun j hj => (filU_at hj).trans (by rw [dS_e]; rfl), Fr.trans hA1 (Fr.fil (by decide))⟩)
  | succ m ih =>
    intro d0 s0 l4 l5 hd hf hz
    have hd6 : d0 < 6 := by omega
    have hX0 : X5 s0 n c := X5_fr hf (by decide) hX
    have hN0 : N21 s0 v u yd := N21_fr hf (by decide) hN
    refine w_blk 4 (pc' := 8) (ls' := [some (.ref 34), some (.ref 5), some (.ref 21), some (.int (nI d0)), l4, l5]) (sk' := [.int (Int32.ofNat 6), .int (nI d0)]) (st' := s0) (fun _ h => h) ?_
    rw [show (Int32.ofNat 6) = nI 6 from rfl]
    refine w_cmp_ge rfl (fun hno => absurd hno (nI_ge (a := d0) (b := 6) hd6 (by omega))) (fun _ => ?_)
    refine w_blk 4 (pc' := 17) (ls' := [some (.ref 34), some (.ref 5), some (.ref 21), some (.int (nI d0)), some (.int 0), some (.int 0)]) (sk' := []) (st' := s0) (fun _ h => h) ?_
    have key2 : ∀ (m k : Nat), k + m = n 1 → mW (mMC mT (d + 3)) (0, fun _ => 0) (mAtL P_X2_look) none Q 17 [some (.ref 34), some (.ref 5), some (.ref 21), some (.int (nI d0)), some (.int (nI (orB (fun s => EN n c u d0 s) (fun s => s) k))), some (.int (nI k))] [] s0 := by
      intro m
      induction m with
      | zero =>
        intro k hk
        obtain rfl : n 1 = k := by omega
        have hto : orB (fun s => EN n c u d0 s) (fun s => s) (n 1) = tbs (EN n c u) d0 := by
          apply Nat.eq_of_testBit_eq
          intro i
          apply Bool.eq_iff_iff.mpr
          rw [tbs_bit, orB_bit]
          exact ⟨fun ⟨k, h1, h2, h3⟩ => by subst h3; exact ⟨by omega, h2⟩, fun ⟨h1, h2⟩ => ⟨i, (EN_in h2).2, h2, rfl⟩⟩
        refine w_blk 3 (pc' := 23) (ls' := [some (.ref 34), some (.ref 5), some (.ref 21), some (.int (nI d0)), some (.int (nI (orB (fun s => EN n c u d0 s) (fun s => s) (n 1)))), some (.int (nI (n 1)))]) (sk' := [.int (s0.1 5 1), .int (nI (n 1))]) (st' := s0) (fun _ h => h) ?_
        rw [hX0.2.1]
        refine w_cmp_ge rfl (fun _ => ?_) (fun hno => absurd (Int32.le_refl _) hno)
        refine w_blk 4 (pc' := 67) (ls' := [some (.ref 34), some (.ref 5), some (.ref 21), some (.int (nI d0)), some (.int (nI (orB (fun s => EN n c u d0 s) (fun s => s) (n 1)))), some (.int (nI (n 1)))]) (sk' := [.int (nI (orB (fun s => EN n c u d0 s) (fun s => s) (n 1))), .int (nI d0), .ref 35]) (st' := s0) (fun _ h => h) ?_
        refine w_iast rfl rfl (vp_in_nI (n := d0) (N := 6) (by omega) (by decide)) ?_
        rw [nI_clamp (show d0 < 2 ^ 31 by omega)]
        refine w_blk 1 (pc' := 71) (ls' := [some (.ref 34), some (.ref 5), some (.ref 21), some (.int ((nI d0) + 1)), some (.int (nI (orB (fun s => EN n c u d0 s) (fun s => s) (n 1)))), some (.int (nI (n 1)))]) (sk' := []) (st' := ((mU s0.1 35 d0 (nI (orB (fun s => EN n c u d0 s) (fun s => s) (n 1)))), s0.2)) (fun _ h => h) ?_
        rw [show ((nI d0) + 1) = nI (d0 + 1) from nI_add d0 1]
        refine w_blk 1 (pc' := 2) (ls' := [some (.ref 34), some (.ref 5), some (.ref 21), some (.int (nI (d0 + 1))), some (.int (nI (orB (fun s => EN n c u d0 s) (fun s => s) (n 1)))), some (.int (nI (n 1)))]) (sk' := []) (st' := ((mU s0.1 35 d0 (nI (orB (fun s => EN n c u d0 s) (fun s => s) (n 1)))), s0.2)) (fun _ h => h) ?_
        exact ih (d0 + 1) ((mU s0.1 35 d0 (nI (orB (fun s => EN n c u d0 s) (fun s => s) (n 1)))), s0.2) _ _ (by omega) (Fr.trans hf (Fr.mU (by decide))) (fun j hj => if ej : j = d0 then (by rw [ej, ← hto]; exact mU_at (f := s0.1) (p := 35) (k := d0)) else (mU_row ej).trans (hz j (by omega)))
      | succ m ih2 =>
        intro k hk
        have hk2 : k < n 1 := by omega
        refine w_blk 3 (pc' := 23) (ls' := [some (.ref 34), some (.ref 5), some (.ref 21), some (.int (nI d0)), some (.int (nI (orB (fun s => EN n c u d0 s) (fun s => s) k))), some (.int (nI k))]) (sk' := [.int (s0.1 5 1), .int (nI k)]) (st' := s0) (fun _ h => h) ?_
        rw [hX0.2.1]
        refine w_cmp_ge rfl (fun hno => absurd hno (nI_ge hk2 (by omega))) (fun _ => ?_)
        refine w_blk 2 (pc' := 28) (ls' := [some (.ref 34), some (.ref 5), some (.ref 21), some (.int (nI d0)), some (.int (nI (orB (fun s => EN n c u d0 s) (fun s => s) k))), some (.int (nI k))]) (sk' := [.int (nI d0), .ref 5]) (st' := s0) (fun _ h => h) ?_
        refine w_callV (As := [.ref 5, .int (nI d0)]) (rest := []) rfl rfl rfl (Nat.le_of_ble_eq_true rfl) (Nat.le_of_ble_eq_true rfl) (by first | exact Or.inl ⟨rfl, rfl⟩ | exact Or.inr ⟨rfl, rfl⟩) (c_hasDigger_5 (d + 2) (nI d0) s0) ?_
        rw [hX0.1]
        rw [pI_in2 (a := d0) (b := n 0) (by omega) (by omega)]
        refine w_if_eq rfl (fun h1 => ?_) (fun h1 => ?_)
        · replace h1 := pI_eq0.mp h1
          refine w_blk 1 (pc' := 57) (ls' := [some (.ref 34), some (.ref 5), some (.ref 21), some (.int (nI d0)), some (.int (nI (orB (fun s => EN n c u d0 s) (fun s => s) k))), some (.int ((nI k) + 1))]) (sk' := []) (st' := s0) (fun _ h => h) ?_
          rw [show ((nI k) + 1) = nI (k + 1) from nI_add k 1]
          refine w_blk 1 (pc' := 17) (ls' := [some (.ref 34), some (.ref 5), some (.ref 21), some (.int (nI d0)), some (.int (nI (orB (fun s => EN n c u d0 s) (fun s => s) k))), some (.int (nI (k + 1)))]) (sk' := []) (st' := s0) (fun _ h => h) ?_
          exact (by have hh := ih2 (k + 1) (by omega); rw [show orB (fun s => EN n c u d0 s) (fun s => s) (k + 1) = orB (fun s => EN n c u d0 s) (fun s => s) k from if_neg (fun e => h1 (EN_in e).1)] at hh; exact hh)
        · replace h1 := pI_ne.mp h1
          refine w_blk 4 (pc' := 39) (ls' := [some (.ref 34), some (.ref 5), some (.ref 21), some (.int (nI d0)), some (.int (nI (orB (fun s => EN n c u d0 s) (fun s => s) k))), some (.int (nI k))]) (sk' := [.int (nI k), .int (nI d0), .ref 5, .ref 21]) (st' := s0) (fun _ h => h) ?_
          have hal := c_allows_5 (d + 0) n c v u yd d0 k s0 hX0 hB hN0 hU h1 hk2
          refine w_callV (As := [.ref 21, .ref 5, .int (nI d0), .int (nI k)]) (rest := []) rfl rfl rfl (Nat.le_of_ble_eq_true rfl) (Nat.le_of_ble_eq_true rfl) (by first | exact Or.inl ⟨rfl, rfl⟩ | exact Or.inr ⟨rfl, rfl⟩) hal ?_
          refine w_if_eq rfl (fun h2 => ?_) (fun h2 => ?_)
          · replace h2 := pI_eq0.mp h2
            refine w_blk 1 (pc' := 57) (ls' := [some (.ref 34), some (.ref 5), some (.ref 21), some (.int (nI d0)), some (.int (nI (orB (fun s => EN n c u d0 s) (fun s => s) k))), some (.int ((nI k) + 1))]) (sk' := []) (st' := s0) (fun _ h => h) ?_
            rw [show ((nI k) + 1) = nI (k + 1) from nI_add k 1]
            refine w_blk 1 (pc' := 17) (ls' := [some (.ref 34), some (.ref 5), some (.ref 21), some (.int (nI d0)), some (.int (nI (orB (fun s => EN n c u d0 s) (fun s => s) k))), some (.int (nI (k + 1)))]) (sk' := []) (st' := s0) (fun _ h => h) ?_
            exact (by have hh := ih2 (k + 1) (by omega); rw [show orB (fun s => EN n c u d0 s) (fun s => s) (k + 1) = orB (fun s => EN n c u d0 s) (fun s => s) k from if_neg (fun e => h2 (of_decide_eq_true e).2.2)] at hh; exact hh)
          · replace h2 := pI_ne.mp h2
            refine w_blk 4 (pc' := 51) (ls' := [some (.ref 34), some (.ref 5), some (.ref 21), some (.int (nI d0)), some (.int (nI (orB (fun s => EN n c u d0 s) (fun s => s) k))), some (.int (nI k))]) (sk' := [.int (1 <<< ((nI k) &&& 31)), .int (nI (orB (fun s => EN n c u d0 s) (fun s => s) k))]) (st' := s0) (fun _ h => h) ?_
            rw [show (1 <<< ((nI k) &&& 31)) = nI (2 ^ k) from nI_shl1 (by omega)]
            refine w_blk 1 (pc' := 52) (ls' := [some (.ref 34), some (.ref 5), some (.ref 21), some (.int (nI d0)), some (.int (nI (orB (fun s => EN n c u d0 s) (fun s => s) k))), some (.int (nI k))]) (sk' := [.int ((nI (orB (fun s => EN n c u d0 s) (fun s => s) k)) ||| (nI (2 ^ k)))]) (st' := s0) (fun _ h => h) ?_
            rw [show ((nI (orB (fun s => EN n c u d0 s) (fun s => s) k)) ||| (nI (2 ^ k))) = nI ((orB (fun s => EN n c u d0 s) (fun s => s) k) ||| (2 ^ k)) from nI_or (orB (fun s => EN n c u d0 s) (fun s => s) k) (2 ^ k)]
            refine w_blk 2 (pc' := 57) (ls' := [some (.ref 34), some (.ref 5), some (.ref 21), some (.int (nI d0)), some (.int (nI ((orB (fun s => EN n c u d0 s) (fun s => s) k) ||| (2 ^ k)))), some (.int ((nI k) + 1))]) (sk' := []) (st' := s0) (fun _ h => h) ?_
            rw [show ((nI k) + 1) = nI (k + 1) from nI_add k 1]
            refine w_blk 1 (pc' := 17) (ls' := [some (.ref 34), some (.ref 5), some (.ref 21), some (.int (nI d0)), some (.int (nI ((orB (fun s => EN n c u d0 s) (fun s => s) k) ||| (2 ^ k)))), some (.int (nI (k + 1)))]) (sk' := []) (st' := s0) (fun _ h => h) ?_
            exact (by have hh := ih2 (k + 1) (by omega); rw [show orB (fun s => EN n c u d0 s) (fun s => s) (k + 1) = (orB (fun s => EN n c u d0 s) (fun s => s) k) ||| (2 ^ k) from if_pos (decide_eq_true ⟨h1, hk2, h2⟩)] at hh; exact hh)
    exact key2 (n 1) 0 (by omega)
set_option maxRecDepth 20000 in
/-- look(crew, present) -/
theorem c_lookH_13 (d : Nat) (n : Nat → Nat) (c : Nat → Nat → Nat) (v : Nat → Int32) (u : Nat → Nat) (yd : Nat) (st : mSt) (hX : X13 st n c) (hB : CB n c) (hN : N21 st v u yd) (hU : ∀ j, 3 ≤ j → j < 12 → u j < 256) : ∃ (s : mSt), mMC mT (d + 4) 32 [.ref 34, .ref 13, .ref 21] st (none) s ∧ XOp s (EN n c u) ∧ XTk s (fun _ _ => false) ∧ XLd s (fun _ _ => false) ∧ Fr [35, 36, 37] st s := by
  suffices H : ∀ Q : Option Value → mSt → Prop, (∀ (s : mSt), (XOp s (EN n c u) ∧ XTk s (fun _ _ => false) ∧ XLd s (fun _ _ => false) ∧ Fr [35, 36, 37] st s) → Q (none) s) → mW (mMC mT (d + 3)) (0, fun _ => 0) (mAtL P_X2_look) none Q 0 [some (.ref 34), some (.ref 13), some (.ref 21), none, none, none] [] st by
    obtain ⟨_, _, ⟨s, rfl, rfl, hp⟩, hw⟩ := mW_ex (H (fun vv tt => ∃ (s : mSt),  vv = none ∧ s = tt ∧ XOp s (EN n c u) ∧ XTk s (fun _ _ => false) ∧ XLd s (fun _ _ => false) ∧ Fr [35, 36, 37] st s) (fun s hp => ⟨s, rfl, rfl, hp⟩))
    exact ⟨s, mI_X2_look (d := d + 3) (Nat.le_of_ble_eq_true rfl) hw, hp⟩
  intro Q hq
  obtain ⟨hb0, hb1, hb2, hbd, hbs, hby⟩ := id hB
  refine w_blk 2 (pc' := 2) (ls' := [some (.ref 34), some (.ref 13), some (.ref 21), some (.int 0), none, none]) (sk' := []) (st' := st) (fun _ h => h) ?_
  suffices key : ∀ (m d0 : Nat) (s0 : mSt) (l4 l5 : Option Value), d0 + m = 6 → Fr [35, 36, 37] st s0 → (∀ j, j < d0 → s0.1 35 j = nI (tbs (EN n c u) j)) → mW (mMC mT (d + 3)) (0, fun _ => 0) (mAtL P_X2_look) none Q 2 [some (.ref 34), some (.ref 13), some (.ref 21), some (.int (nI d0)), l4, l5] [] s0 from key 6 0 st none none (by omega) Fr.rf (fun j hj => absurd hj (by omega))
  intro m
  induction m with
  | zero =>
    intro d0 s0 l4 l5 hd hf hz
    obtain rfl : d0 = 6 := by omega
    refine w_blk 4 (pc' := 8) (ls' := [some (.ref 34), some (.ref 13), some (.ref 21), some (.int (nI 6)), l4, l5]) (sk' := [.int (Int32.ofNat 6), .int (nI 6)]) (st' := s0) (fun _ h => h) ?_
    rw [show (Int32.ofNat 6) = nI 6 from rfl]
    refine w_cmp_ge rfl (fun _ => ?_) (fun hno => absurd (Int32.le_refl _) hno)
    refine w_blk 3 (pc' := 79) (ls' := [some (.ref 34), some (.ref 13), some (.ref 21), some (.int (nI 6)), l4, l5]) (sk' := [.int 0, .ref 36]) (st' := s0) (fun _ h => h) ?_
    refine w_callS (As := [.ref 36, .int 0]) (rest := []) rfl rfl rfl (Nat.le_of_ble_eq_true rfl) (Nat.le_of_ble_eq_true rfl) (c_fill (d + 2) 36 6 0 s0 (by decide) rfl) ?_
    have hA1 : Fr [35, 36, 37] st (filU s0.1 36 6 0, s0.2) := Fr.trans hf (Fr.fil (by decide))
    have hA2 : ∀ j, j < 6 → (filU s0.1 36 6 0) 35 j = nI (tbs (EN n c u) j) := fun j hj => (congrFun (filU_ne (by decide)) j).trans (hz j hj)
    have hA3 : ∀ j, j < 6 → (filU s0.1 36 6 0) 36 j = 0 := fun j hj => filU_at hj
    generalize hs4 : ((filU s0.1 36 6 0, s0.2) : mSt) = s4 at hA1 ⊢
    have hA2 : ∀ j, j < 6 → s4.1 35 j = nI (tbs (EN n c u) j) := fun j hj => by rw [← hs4]; exact hA2 j hj
    have hA3 : ∀ j, j < 6 → s4.1 36 j = 0 := fun j hj => by rw [← hs4]; exact hA3 j hj
    refine w_blk 3 (pc' := 87) (ls' := [some (.ref 34), some (.ref 13), some (.ref 21), some (.int (nI 6)), l4, l5]) (sk' := [.int 0, .ref 37]) (st' := s4) (fun _ h => h) ?_
    refine w_callS (As := [.ref 37, .int 0]) (rest := []) rfl rfl rfl (Nat.le_of_ble_eq_true rfl) (Nat.le_of_ble_eq_true rfl) (c_fill (d + 2) 37 8 0 s4 (by decide) rfl) ?_
    exact w_vret rfl rfl (hq (filU s4.1 37 8 0, s4.2) ⟨fun j hj => (congrFun (filU_ne (f := s4.1) (a := 37) (n := 8) (q := 35) (x := 0) (by decide)) j).trans (hA2 j hj), fun j hj => ((congrFun (filU_ne (f := s4.1) (a := 37) (n := 8) (q := 36) (x := 0) (by decide)) j).trans (hA3 j hj)).trans (by rw [tbs_e]; rfl), fun j hj => (filU_at hj).trans (by rw [dS_e]; rfl), Fr.trans hA1 (Fr.fil (by decide))⟩)
  | succ m ih =>
    intro d0 s0 l4 l5 hd hf hz
    have hd6 : d0 < 6 := by omega
    have hX0 : X13 s0 n c := X13_fr hf (by decide) hX
    have hN0 : N21 s0 v u yd := N21_fr hf (by decide) hN
    refine w_blk 4 (pc' := 8) (ls' := [some (.ref 34), some (.ref 13), some (.ref 21), some (.int (nI d0)), l4, l5]) (sk' := [.int (Int32.ofNat 6), .int (nI d0)]) (st' := s0) (fun _ h => h) ?_
    rw [show (Int32.ofNat 6) = nI 6 from rfl]
    refine w_cmp_ge rfl (fun hno => absurd hno (nI_ge (a := d0) (b := 6) hd6 (by omega))) (fun _ => ?_)
    refine w_blk 4 (pc' := 17) (ls' := [some (.ref 34), some (.ref 13), some (.ref 21), some (.int (nI d0)), some (.int 0), some (.int 0)]) (sk' := []) (st' := s0) (fun _ h => h) ?_
    have key2 : ∀ (m k : Nat), k + m = n 1 → mW (mMC mT (d + 3)) (0, fun _ => 0) (mAtL P_X2_look) none Q 17 [some (.ref 34), some (.ref 13), some (.ref 21), some (.int (nI d0)), some (.int (nI (orB (fun s => EN n c u d0 s) (fun s => s) k))), some (.int (nI k))] [] s0 := by
      intro m
      induction m with
      | zero =>
        intro k hk
        obtain rfl : n 1 = k := by omega
        have hto : orB (fun s => EN n c u d0 s) (fun s => s) (n 1) = tbs (EN n c u) d0 := by
          apply Nat.eq_of_testBit_eq
          intro i
          apply Bool.eq_iff_iff.mpr
          rw [tbs_bit, orB_bit]
          exact ⟨fun ⟨k, h1, h2, h3⟩ => by subst h3; exact ⟨by omega, h2⟩, fun ⟨h1, h2⟩ => ⟨i, (EN_in h2).2, h2, rfl⟩⟩
        refine w_blk 3 (pc' := 23) (ls' := [some (.ref 34), some (.ref 13), some (.ref 21), some (.int (nI d0)), some (.int (nI (orB (fun s => EN n c u d0 s) (fun s => s) (n 1)))), some (.int (nI (n 1)))]) (sk' := [.int (s0.1 13 1), .int (nI (n 1))]) (st' := s0) (fun _ h => h) ?_
        rw [hX0.2.1]
        refine w_cmp_ge rfl (fun _ => ?_) (fun hno => absurd (Int32.le_refl _) hno)
        refine w_blk 4 (pc' := 67) (ls' := [some (.ref 34), some (.ref 13), some (.ref 21), some (.int (nI d0)), some (.int (nI (orB (fun s => EN n c u d0 s) (fun s => s) (n 1)))), some (.int (nI (n 1)))]) (sk' := [.int (nI (orB (fun s => EN n c u d0 s) (fun s => s) (n 1))), .int (nI d0), .ref 35]) (st' := s0) (fun _ h => h) ?_
        refine w_iast rfl rfl (vp_in_nI (n := d0) (N := 6) (by omega) (by decide)) ?_
        rw [nI_clamp (show d0 < 2 ^ 31 by omega)]
        refine w_blk 1 (pc' := 71) (ls' := [some (.ref 34), some (.ref 13), some (.ref 21), some (.int ((nI d0) + 1)), some (.int (nI (orB (fun s => EN n c u d0 s) (fun s => s) (n 1)))), some (.int (nI (n 1)))]) (sk' := []) (st' := ((mU s0.1 35 d0 (nI (orB (fun s => EN n c u d0 s) (fun s => s) (n 1)))), s0.2)) (fun _ h => h) ?_
        rw [show ((nI d0) + 1) = nI (d0 + 1) from nI_add d0 1]
        refine w_blk 1 (pc' := 2) (ls' := [some (.ref 34), some (.ref 13), some (.ref 21), some (.int (nI (d0 + 1))), some (.int (nI (orB (fun s => EN n c u d0 s) (fun s => s) (n 1)))), some (.int (nI (n 1)))]) (sk' := []) (st' := ((mU s0.1 35 d0 (nI (orB (fun s => EN n c u d0 s) (fun s => s) (n 1)))), s0.2)) (fun _ h => h) ?_
        exact ih (d0 + 1) ((mU s0.1 35 d0 (nI (orB (fun s => EN n c u d0 s) (fun s => s) (n 1)))), s0.2) _ _ (by omega) (Fr.trans hf (Fr.mU (by decide))) (fun j hj => if ej : j = d0 then (by rw [ej, ← hto]; exact mU_at (f := s0.1) (p := 35) (k := d0)) else (mU_row ej).trans (hz j (by omega)))
      | succ m ih2 =>
        intro k hk
        have hk2 : k < n 1 := by omega
        refine w_blk 3 (pc' := 23) (ls' := [some (.ref 34), some (.ref 13), some (.ref 21), some (.int (nI d0)), some (.int (nI (orB (fun s => EN n c u d0 s) (fun s => s) k))), some (.int (nI k))]) (sk' := [.int (s0.1 13 1), .int (nI k)]) (st' := s0) (fun _ h => h) ?_
        rw [hX0.2.1]
        refine w_cmp_ge rfl (fun hno => absurd hno (nI_ge hk2 (by omega))) (fun _ => ?_)
        refine w_blk 2 (pc' := 28) (ls' := [some (.ref 34), some (.ref 13), some (.ref 21), some (.int (nI d0)), some (.int (nI (orB (fun s => EN n c u d0 s) (fun s => s) k))), some (.int (nI k))]) (sk' := [.int (nI d0), .ref 13]) (st' := s0) (fun _ h => h) ?_
        refine w_callV (As := [.ref 13, .int (nI d0)]) (rest := []) rfl rfl rfl (Nat.le_of_ble_eq_true rfl) (Nat.le_of_ble_eq_true rfl) (by first | exact Or.inl ⟨rfl, rfl⟩ | exact Or.inr ⟨rfl, rfl⟩) (c_hasDigger_13 (d + 2) (nI d0) s0) ?_
        rw [hX0.1]
        rw [pI_in2 (a := d0) (b := n 0) (by omega) (by omega)]
        refine w_if_eq rfl (fun h1 => ?_) (fun h1 => ?_)
        · replace h1 := pI_eq0.mp h1
          refine w_blk 1 (pc' := 57) (ls' := [some (.ref 34), some (.ref 13), some (.ref 21), some (.int (nI d0)), some (.int (nI (orB (fun s => EN n c u d0 s) (fun s => s) k))), some (.int ((nI k) + 1))]) (sk' := []) (st' := s0) (fun _ h => h) ?_
          rw [show ((nI k) + 1) = nI (k + 1) from nI_add k 1]
          refine w_blk 1 (pc' := 17) (ls' := [some (.ref 34), some (.ref 13), some (.ref 21), some (.int (nI d0)), some (.int (nI (orB (fun s => EN n c u d0 s) (fun s => s) k))), some (.int (nI (k + 1)))]) (sk' := []) (st' := s0) (fun _ h => h) ?_
          exact (by have hh := ih2 (k + 1) (by omega); rw [show orB (fun s => EN n c u d0 s) (fun s => s) (k + 1) = orB (fun s => EN n c u d0 s) (fun s => s) k from if_neg (fun e => h1 (EN_in e).1)] at hh; exact hh)
        · replace h1 := pI_ne.mp h1
          refine w_blk 4 (pc' := 39) (ls' := [some (.ref 34), some (.ref 13), some (.ref 21), some (.int (nI d0)), some (.int (nI (orB (fun s => EN n c u d0 s) (fun s => s) k))), some (.int (nI k))]) (sk' := [.int (nI k), .int (nI d0), .ref 13, .ref 21]) (st' := s0) (fun _ h => h) ?_
          have hal := c_allows_13 (d + 0) n c v u yd d0 k s0 hX0 hB hN0 hU h1 hk2
          refine w_callV (As := [.ref 21, .ref 13, .int (nI d0), .int (nI k)]) (rest := []) rfl rfl rfl (Nat.le_of_ble_eq_true rfl) (Nat.le_of_ble_eq_true rfl) (by first | exact Or.inl ⟨rfl, rfl⟩ | exact Or.inr ⟨rfl, rfl⟩) hal ?_
          refine w_if_eq rfl (fun h2 => ?_) (fun h2 => ?_)
          · replace h2 := pI_eq0.mp h2
            refine w_blk 1 (pc' := 57) (ls' := [some (.ref 34), some (.ref 13), some (.ref 21), some (.int (nI d0)), some (.int (nI (orB (fun s => EN n c u d0 s) (fun s => s) k))), some (.int ((nI k) + 1))]) (sk' := []) (st' := s0) (fun _ h => h) ?_
            rw [show ((nI k) + 1) = nI (k + 1) from nI_add k 1]
            refine w_blk 1 (pc' := 17) (ls' := [some (.ref 34), some (.ref 13), some (.ref 21), some (.int (nI d0)), some (.int (nI (orB (fun s => EN n c u d0 s) (fun s => s) k))), some (.int (nI (k + 1)))]) (sk' := []) (st' := s0) (fun _ h => h) ?_
            exact (by have hh := ih2 (k + 1) (by omega); rw [show orB (fun s => EN n c u d0 s) (fun s => s) (k + 1) = orB (fun s => EN n c u d0 s) (fun s => s) k from if_neg (fun e => h2 (of_decide_eq_true e).2.2)] at hh; exact hh)
          · replace h2 := pI_ne.mp h2
            refine w_blk 4 (pc' := 51) (ls' := [some (.ref 34), some (.ref 13), some (.ref 21), some (.int (nI d0)), some (.int (nI (orB (fun s => EN n c u d0 s) (fun s => s) k))), some (.int (nI k))]) (sk' := [.int (1 <<< ((nI k) &&& 31)), .int (nI (orB (fun s => EN n c u d0 s) (fun s => s) k))]) (st' := s0) (fun _ h => h) ?_
            rw [show (1 <<< ((nI k) &&& 31)) = nI (2 ^ k) from nI_shl1 (by omega)]
            refine w_blk 1 (pc' := 52) (ls' := [some (.ref 34), some (.ref 13), some (.ref 21), some (.int (nI d0)), some (.int (nI (orB (fun s => EN n c u d0 s) (fun s => s) k))), some (.int (nI k))]) (sk' := [.int ((nI (orB (fun s => EN n c u d0 s) (fun s => s) k)) ||| (nI (2 ^ k)))]) (st' := s0) (fun _ h => h) ?_
            rw [show ((nI (orB (fun s => EN n c u d0 s) (fun s => s) k)) ||| (nI (2 ^ k))) = nI ((orB (fun s => EN n c u d0 s) (fun s => s) k) ||| (2 ^ k)) from nI_or (orB (fun s => EN n c u d0 s) (fun s => s) k) (2 ^ k)]
            refine w_blk 2 (pc' := 57) (ls' := [some (.ref 34), some (.ref 13), some (.ref 21), some (.int (nI d0)), some (.int (nI ((orB (fun s => EN n c u d0 s) (fun s => s) k) ||| (2 ^ k)))), some (.int ((nI k) + 1))]) (sk' := []) (st' := s0) (fun _ h => h) ?_
            rw [show ((nI k) + 1) = nI (k + 1) from nI_add k 1]
            refine w_blk 1 (pc' := 17) (ls' := [some (.ref 34), some (.ref 13), some (.ref 21), some (.int (nI d0)), some (.int (nI ((orB (fun s => EN n c u d0 s) (fun s => s) k) ||| (2 ^ k)))), some (.int (nI (k + 1)))]) (sk' := []) (st' := s0) (fun _ h => h) ?_
            exact (by have hh := ih2 (k + 1) (by omega); rw [show orB (fun s => EN n c u d0 s) (fun s => s) (k + 1) = (orB (fun s => EN n c u d0 s) (fun s => s) k) ||| (2 ^ k) from if_pos (decide_eq_true ⟨h1, hk2, h2⟩)] at hh; exact hh)
    exact key2 (n 1) 0 (by omega)
