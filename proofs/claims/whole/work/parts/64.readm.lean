/-! THE TEXT, read by the model: tokens one by one -/
def FF (S K : List Nat) (st s : mSt) : Prop := Fr S st s ∧ Fk 53 K st s ∧ s.2 = st.2
theorem FF.rf {S K : List Nat} {st : mSt} : FF S K st st := ⟨Fr.rf, Fk.rf, rfl⟩
theorem FF.trans {S K : List Nat} {a b c : mSt} (h1 : FF S K a b) (h2 : FF S K b c) : FF S K a c := ⟨Fr.trans h1.1 h2.1, Fk.trans h1.2.1 h2.2.1, h2.2.2.trans h1.2.2⟩
theorem FF.mono {S S2 K K2 : List Nat} {a b : mSt} (h : FF S K a b) (hs : ∀ p, p ∈ S → p ∈ S2) (hk : ∀ p, p ∈ K → p ∈ K2) : FF S2 K2 a b := ⟨Fr.mono h.1 hs, fun j hj => h.2.1 j (fun q => hj (hk j q)), h.2.2⟩
theorem FF.w53 {S K : List Nat} {st s : mSt} {k : Nat} {x : Int32} (h : FF S K st s) (hS : 53 ∈ S) (hk : k ∈ K) : FF S K st (mU s.1 53 k x, s.2) := ⟨Fr.trans h.1 (Fr.mU hS), Fk.trans h.2.1 (Fk.wr hk), h.2.2⟩
theorem FF.wr {S K : List Nat} {st s : mSt} {p k : Nat} {x : Int32} (h : FF S K st s) (hS : p ∈ S) (hp : p ≠ 53) : FF S K st (mU s.1 p k x, s.2) := ⟨Fr.trans h.1 (Fr.mU hS), Fk.trans h.2.1 (Fk.wn hp), h.2.2⟩
theorem FF.at {S K : List Nat} {st s : mSt} (h : FF S K st s) (j : Nat) (hj : j ∉ K) : s.1 53 j = st.1 53 j := h.2.1 j hj
theorem MS_ff {S K : List Nat} {st s : mSt} {L : Nat} {b : Nat → Nat} (h : FF S K st s) (hS : ∀ p, p ∈ [54] → p ∉ S) (hK : 2 ∉ K) (hP : MS st L b) : MS s L b := MS_fr h.1 hS (h.2.1 2 hK) hP
theorem inI {x a z : Nat} (h : x < 2 ^ 31) (ha : a < 2 ^ 31) (hz : z < 2 ^ 31) : (nI a ≤ nI x ∧ nI x ≤ nI z) ↔ (a ≤ x ∧ x ≤ z) := ⟨fun q => ⟨(nI_leI ha h).mp q.1, (nI_leI h hz).mp q.2⟩, fun q => ⟨(nI_leI ha h).mpr q.1, (nI_leI h hz).mpr q.2⟩⟩
theorem in_l {b : Nat → Nat} {p : Nat} (h : b p < 256) : pI ((97 : Int32) ≤ nI (b p) ∧ nI (b p) ≤ 122) = pI (ltr b p = true) := pI_cong ((inI (a := 97) (z := 122) (by omega) (by decide) (by decide)).trans ltr_i.symm)
theorem in_d {b : Nat → Nat} {p : Nat} (h : b p < 256) : pI ((48 : Int32) ≤ nI (b p) ∧ nI (b p) ≤ 57) = pI (dig b p = true) := pI_cong ((inI (a := 48) (z := 57) (by omega) (by decide) (by decide)).trans dig_i.symm)
/-- where the reader stands: the token at p -/
def MK (st : mSt) (b : Nat → Nat) (L p : Nat) : Prop := st.1 53 13 = nI (nxt b L p) ∧ st.1 53 14 = nI p ∧ st.1 53 15 = nI (srt (tk b L p)) ∧ ∃ w, st.1 53 16 = nI w ∧ w ≤ 999 ∧ (tk b L p < 100 → w = tk b L p)
def cdc (b : Nat → Nat) (p k : Nat) : Nat := if k ≤ 6 then cod b p k else 0
theorem cdc_le {b : Nat → Nat} {p k : Nat} (h : ∀ j, j < k → 97 ≤ b (p + j) ∧ b (p + j) ≤ 122) : cdc b p k < 27 ^ 6 := by
  unfold cdc
  split
  · rename_i h6
    exact Nat.lt_of_lt_of_le (cod_le k h) (Nat.pow_le_pow_right (by decide) h6)
  · decide
theorem cdc_s {b : Nat → Nat} {p k : Nat} (h : k < 6) (hl : 97 ≤ b (p + k)) : 27 * cdc b p k + b (p + k) - 96 = cdc b p (k + 1) := by
  have e1 : cdc b p k = cod b p k := if_pos (by omega)
  have e2 : cdc b p (k + 1) = cod b p (k + 1) := if_pos (by omega)
  rw [e1, e2, cod_s]
  omega
theorem cdc_0 {b : Nat → Nat} {p k : Nat} (h : 6 ≤ k) : cdc b p (k + 1) = 0 := if_neg (by omega)
theorem cdc_i {b : Nat → Nat} {p k : Nat} (h : k ≤ 6) : cdc b p k = (if 6 < k then 0 else cod b p k) := (if_pos h).trans (if_neg (by omega)).symm
theorem vl_s {b : Nat → Nat} {p k : Nat} : vl b p (k + 1) = if 99 < vl b p k then vl b p k else 10 * vl b p k + (b (p + k) - 48) := rfl
theorem mean_lt (x : Nat) : mean x ≤ 8 := by
  unfold mean
  repeat' split
  all_goals decide
set_option maxRecDepth 20000 in
/-- here() -/
theorem m_here_y (d : Nat) (L : Nat) (b : Nat → Nat) (i : Nat) (st : mSt) (hP : MS st L b) (hb : ∀ j, j < L → b j < 256) (hL : L ≤ 300) (hA : st.1 53 13 = nI i) (hi : i < L) : mMC mT (d + 1) 133 [.ref 53] st (some (.int (nI (b i)))) st := by
  refine mI_X10_here (d := d + 0) (Nat.le_of_ble_eq_true rfl) (fun Q hq => ?_)
  show mW (mMC mT (d + 0)) (0, fun _ => 0) (mAtL P_X10_here) (some .int) Q 0 [some (.ref 53)] [] st
  refine w_blk 2 (pc' := 4) (ls' := [some (.ref 53)]) (sk' := [.int (st.1 53 13)]) (st' := st) (fun _ h => h) ?_
  rw [hA]
  refine w_blk 2 (pc' := 8) (ls' := [some (.ref 53)]) (sk' := [.int (st.1 53 2), .int (nI i)]) (st' := st) (fun _ h => h) ?_
  rw [hP.1]
  refine w_cmp_ge rfl (fun hno => absurd hno (nI_ge hi (by omega))) (fun _ => ?_)
  refine w_blk 4 (pc' := 19) (ls' := [some (.ref 53)]) (sk' := [.int (st.1 53 13), .ref 54]) (st' := st) (fun _ h => h) ?_
  rw [hA]
  refine w_bald1 rfl rfl (vp_in_nI (n := i) (N := 300) (by omega) (by decide)) ?_
  rw [nI_clamp (show i < 2 ^ 31 by omega)]
  rw [hP.2 i hi]
  refine w_blk 2 (pc' := 24) (ls' := [some (.ref 53)]) (sk' := [.int ((sb (b i)) &&& 255)]) (st' := st) (fun _ h => h) ?_
  rw [sb_and (b i) (hb i hi)]
  refine w_blk 1 (pc' := 28) (ls' := [some (.ref 53)]) (sk' := [.int (nI (b i))]) (st' := st) (fun _ h => h) ?_
  exact w_iret rfl rfl rfl hq
set_option maxRecDepth 20000 in
/-- here() -/
theorem m_here_n (d : Nat) (L : Nat) (b : Nat → Nat) (i : Nat) (st : mSt) (hP : MS st L b) (hb : ∀ j, j < L → b j < 256) (hL : L ≤ 300) (hA : st.1 53 13 = nI i) (hi : i = L) : mMC mT (d + 1) 133 [.ref 53] st (some (.int (-1))) st := by
  refine mI_X10_here (d := d + 0) (Nat.le_of_ble_eq_true rfl) (fun Q hq => ?_)
  show mW (mMC mT (d + 0)) (0, fun _ => 0) (mAtL P_X10_here) (some .int) Q 0 [some (.ref 53)] [] st
  refine w_blk 2 (pc' := 4) (ls' := [some (.ref 53)]) (sk' := [.int (st.1 53 13)]) (st' := st) (fun _ h => h) ?_
  rw [hA]
  refine w_blk 2 (pc' := 8) (ls' := [some (.ref 53)]) (sk' := [.int (st.1 53 2), .int (nI i)]) (st' := st) (fun _ h => h) ?_
  rw [hP.1]
  refine w_cmp_ge rfl (fun _ => ?_) (fun hno => absurd (by rw [hi]; exact Int32.le_refl _) hno)
  refine w_blk 1 (pc' := 28) (ls' := [some (.ref 53)]) (sk' := [.int (-1)]) (st' := st) (fun _ h => h) ?_
  exact w_iret rfl rfl rfl hq
set_option maxRecDepth 20000 in
/-- meaning(code) -/
theorem m_meaning (d : Nat) (x : Nat) (st : mSt) (hx : x < 2 ^ 31) : mMC mT (d + 1) 134 [.int (nI x)] st (some (.int (nI (mean x)))) st := by
  refine mI_X10_meaning (d := d + 0) (Nat.le_of_ble_eq_true rfl) (fun Q hq => ?_)
  show mW (mMC mT (d + 0)) (0, fun _ => 0) (mAtL P_X10_meaning) (some .int) Q 0 [some (.int (nI x))] [] st
  refine w_blk 1 (pc' := 1) (ls' := [some (.int (nI x))]) (sk' := [.int (nI x)]) (st' := st) (fun _ h => h) ?_
  have hne : ∀ K : Nat, K < 2 ^ 31 → x ≠ K → ¬ nI x = nI K := fun K hK h e => h ((nI_eq hx hK).mp e)
  by_cases h0 : x = 240023
  · subst h0
    refine w_lookup (o := 59) (t := 60) rfl (by decide) (by decide) rfl ?_
    refine w_blk 1 (pc' := 61) (ls' := [some (.int (nI 240023))]) (sk' := [.int 4]) (st' := st) (fun _ h => h) ?_
    exact w_iret rfl rfl rfl hq
  · by_cases h1 : x = 493294
    · subst h1
      refine w_lookup (o := 55) (t := 56) rfl (by decide) (by decide) rfl ?_
      refine w_blk 1 (pc' := 57) (ls' := [some (.int (nI 493294))]) (sk' := [.int 2]) (st' := st) (fun _ h => h) ?_
      exact w_iret rfl rfl rfl hq
    · by_cases h2 : x = 9748424
      · subst h2
        refine w_lookup (o := 57) (t := 58) rfl (by decide) (by decide) rfl ?_
        refine w_blk 1 (pc' := 59) (ls' := [some (.int (nI 9748424))]) (sk' := [.int 3]) (st' := st) (fun _ h => h) ?_
        exact w_iret rfl rfl rfl hq
      · by_cases h3 : x = 10413149
        · subst h3
          refine w_lookup (o := 53) (t := 54) rfl (by decide) (by decide) rfl ?_
          refine w_blk 1 (pc' := 55) (ls' := [some (.int (nI 10413149))]) (sk' := [.int 1]) (st' := st) (fun _ h => h) ?_
          exact w_iret rfl rfl rfl hq
        · by_cases h4 : x = 62321634
          · subst h4
            refine w_lookup (o := 51) (t := 52) rfl (by decide) (by decide) rfl ?_
            refine w_blk 1 (pc' := 53) (ls' := [some (.int (nI 62321634))]) (sk' := [.int 0]) (st' := st) (fun _ h => h) ?_
            exact w_iret rfl rfl rfl hq
          · refine w_lookup (o := 61) (t := 62) rfl (by decide) ((lv_osw (show ¬ nI x = (240023 : Int32) from hne 240023 (by decide) h0) rfl).trans ((lv_osw (show ¬ nI x = (493294 : Int32) from hne 493294 (by decide) h1) rfl).trans ((lv_osw (show ¬ nI x = (9748424 : Int32) from hne 9748424 (by decide) h2) rfl).trans ((lv_osw (show ¬ nI x = (10413149 : Int32) from hne 10413149 (by decide) h3) rfl).trans ((lv_osw (show ¬ nI x = (62321634 : Int32) from hne 62321634 (by decide) h4) rfl).trans rfl))))) rfl ?_
            rw [show mean x = 8 from (if_neg h4).trans ((if_neg h3).trans ((if_neg h1).trans ((if_neg h2).trans (if_neg h0))))] at hq
            refine w_blk 1 (pc' := 64) (ls' := [some (.int (nI x))]) (sk' := [.int 8]) (st' := st) (fun _ h => h) ?_
            exact w_iret rfl rfl rfl hq
set_option maxRecDepth 20000 in
/-- next() -/
theorem m_next (d : Nat) (L : Nat) (b : Nat → Nat) (i : Nat) (st : mSt) (hP : MS st L b) (hb : ∀ j, j < L → b j < 256) (hL : L ≤ 300) (hA : st.1 53 13 = nI i) (hi : i ≤ L) : ∃ (s : mSt), mMC mT (d + 2) 135 [.ref 53] st (none) s ∧ MK s b L (skB b L i) ∧ FF [53] [13, 14, 15, 16] st s := by
  suffices H : ∀ Q : Option Value → mSt → Prop, (∀ (s : mSt), (MK s b L (skB b L i) ∧ FF [53] [13, 14, 15, 16] st s) → Q (none) s) → mW (mMC mT (d + 1)) (0, fun _ => 0) (mAtL P_X10_next) none Q 0 [some (.ref 53), none, none] [] st by
    obtain ⟨_, _, ⟨s, rfl, rfl, hp⟩, hw⟩ := mW_ex (H (fun vv tt => ∃ (s : mSt),  vv = none ∧ s = tt ∧ MK s b L (skB b L i) ∧ FF [53] [13, 14, 15, 16] st s) (fun s hp => ⟨s, rfl, rfl, hp⟩))
    exact ⟨s, mI_X10_next (d := d + 1) (Nat.le_of_ble_eq_true rfl) hw, hp⟩
  intro Q hq
  have hPf : ∀ s0, FF [53] [13, 14, 15, 16] st s0 → MS s0 L b := fun s0 hf => MS_ff hf (by decide) (by decide) hP
  have keyB : ∀ (p : Nat) (s0 : mSt) (l1 l2 : Option Value), p ≤ L → p = skB b L i → FF [53] [13, 14, 15, 16] st s0 → s0.1 53 13 = nI p → mW (mMC mT (d + 1)) (0, fun _ => 0) (mAtL P_X10_next) none Q 22 [some (.ref 53), l1, l2] [] s0 := by
    intro p s0 l1 l2 hpL hpe hf hA
    rw [← hpe] at hq
    refine w_blk 3 (pc' := 27) (ls' := [some (.ref 53), l1, l2]) (sk' := [.int (s0.1 53 13), .ref 53]) (st' := s0) (fun _ h => h) ?_
    rw [hA]
    refine w_blk 4 (pc' := 35) (ls' := [some (.ref 53), l1, l2]) (sk' := []) (st' := ((mU (mU s0.1 53 14 (nI p)) 53 16 0), s0.2)) (fun _ h => h) ?_
    have hA_2 : (((mU (mU s0.1 53 14 (nI p)) 53 16 0), s0.2)).1 53 13 = nI p := hA
    have hS_3 : (((mU (mU s0.1 53 14 (nI p)) 53 16 0), s0.2)).1 53 14 = nI p := rfl
    have hV_4 : (((mU (mU s0.1 53 14 (nI p)) 53 16 0), s0.2)).1 53 16 = nI 0 := rfl
    have hF_5 : FF [53] [13, 14, 15, 16] st ((mU (mU s0.1 53 14 (nI p)) 53 16 0), s0.2) := (FF.w53 (FF.w53 hf (by decide) (by decide)) (by decide) (by decide))
    generalize ((mU (mU s0.1 53 14 (nI p)) 53 16 0), s0.2) = s1 at hA_2 hS_3 hV_4 hF_5 ⊢
    have hP1 := hPf s1 hF_5
    refine w_blk 1 (pc' := 36) (ls' := [some (.ref 53), l1, l2]) (sk' := [.ref 53]) (st' := s1) (fun _ h => h) ?_
    by_cases hpl : p = L
    · refine w_callV (As := [.ref 53]) (rest := []) rfl rfl rfl (Nat.le_of_ble_eq_true rfl) (Nat.le_of_ble_eq_true rfl) (by first | exact Or.inl ⟨rfl, rfl⟩ | exact Or.inr ⟨rfl, rfl⟩) (m_here_n (d + 0) L b p s1 hP1 hb hL hA_2 hpl) ?_
      refine w_blk 2 (pc' := 41) (ls' := [some (.ref 53), some (.int (-1)), l2]) (sk' := [.int (-1)]) (st' := s1) (fun _ h => h) ?_
      refine w_if_ge rfl (fun hno => absurd hno (by decide)) (fun _ => ?_)
      refine w_blk 4 (pc' := 294) (ls' := [some (.ref 53), some (.int (-1)), l2]) (sk' := []) (st' := ((mU s1.1 53 15 5), s1.2)) (fun _ h => h) ?_
      have hn : ¬ p < L := by omega
      have e1 : nxt b L p = p := if_neg hn
      have e2 : tk b L p = 100 := if_neg hn
      exact w_vret rfl rfl (hq ((mU s1.1 53 15 5), s1.2) ⟨⟨by rw [e1]; exact hA_2, hS_3, by rw [e2]; rfl, 0, hV_4, by decide, fun h => absurd h (by rw [e2]; decide)⟩, (FF.w53 hF_5 (by decide) (by decide))⟩)
    · have hp1 : p < L := by omega
      have hb0 := hb p hp1
      have e1 : nxt b L p = tend b L p := if_pos hp1
      have e2 : tk b L p = tokO b p (tend b L p) := if_pos hp1
      have hte := tend_le (b := b) hp1
      have htg := tend_gt b L p
      refine w_callV (As := [.ref 53]) (rest := []) rfl rfl rfl (Nat.le_of_ble_eq_true rfl) (Nat.le_of_ble_eq_true rfl) (by first | exact Or.inl ⟨rfl, rfl⟩ | exact Or.inr ⟨rfl, rfl⟩) (m_here_y (d + 0) L b p s1 hP1 hb hL hA_2 hp1) ?_
      refine w_blk 2 (pc' := 41) (ls' := [some (.ref 53), some (.int (nI (b p))), l2]) (sk' := [.int (nI (b p))]) (st' := s1) (fun _ h => h) ?_
      refine w_if_ge rfl (fun _ => ?_) (fun hno => absurd (nI_pos' (by omega)) hno)
      refine w_blk 3 (pc' := 57) (ls' := [some (.ref 53), some (.int (nI (b p))), l2]) (sk' := [.int 122, .int 97, .int (nI (b p))]) (st' := s1) (fun _ h => h) ?_
      refine w_callS (As := [.int (nI (b p)), .int 97, .int 122]) (rest := []) rfl rfl rfl (Nat.le_of_ble_eq_true rfl) (Nat.le_of_ble_eq_true rfl) (m_in (d + 0) (nI (b p)) 97 122 s1) ?_
      rw [in_l hb0]
      refine w_if_eq rfl (fun h1 => ?_) (fun h1 => ?_)
      · replace h1 := pI_eq0.mp h1
        refine w_blk 3 (pc' := 157) (ls' := [some (.ref 53), some (.int (nI (b p))), l2]) (sk' := [.int 57, .int 48, .int (nI (b p))]) (st' := s1) (fun _ h => h) ?_
        refine w_callS (As := [.int (nI (b p)), .int 48, .int 57]) (rest := []) rfl rfl rfl (Nat.le_of_ble_eq_true rfl) (Nat.le_of_ble_eq_true rfl) (m_in (d + 0) (nI (b p)) 48 57 s1) ?_
        rw [in_d hb0]
        refine w_if_eq rfl (fun h2 => ?_) (fun h2 => ?_)
        · replace h2 := pI_eq0.mp h2
          have e3 : tend b L p = p + 1 := (if_neg h1).trans (if_neg h2)
          refine w_blk 3 (pc' := 272) (ls' := [some (.ref 53), some (.int (nI (b p))), l2]) (sk' := [.int (s1.1 53 13), .ref 53]) (st' := s1) (fun _ h => h) ?_
          rw [hA_2]
          refine w_blk 2 (pc' := 274) (ls' := [some (.ref 53), some (.int (nI (b p))), l2]) (sk' := [.int ((nI p) + 1), .ref 53]) (st' := s1) (fun _ h => h) ?_
          rw [show ((nI p) + 1) = nI (p + 1) from nI_add p 1]
          refine w_blk 1 (pc' := 277) (ls' := [some (.ref 53), some (.int (nI (b p))), l2]) (sk' := []) (st' := ((mU s1.1 53 13 (nI (p + 1))), s1.2)) (fun _ h => h) ?_
          have hA_7 : (((mU s1.1 53 13 (nI (p + 1))), s1.2)).1 53 13 = nI (p + 1) := rfl
          have hS_8 : (((mU s1.1 53 13 (nI (p + 1))), s1.2)).1 53 14 = nI p := hS_3
          have hV_9 : (((mU s1.1 53 13 (nI (p + 1))), s1.2)).1 53 16 = nI 0 := hV_4
          have hF_10 : FF [53] [13, 14, 15, 16] st ((mU s1.1 53 13 (nI (p + 1))), s1.2) := (FF.w53 hF_5 (by decide) (by decide))
          generalize ((mU s1.1 53 13 (nI (p + 1))), s1.2) = s6 at hA_7 hS_8 hV_9 hF_10 ⊢
          refine w_blk 3 (pc' := 281) (ls' := [some (.ref 53), some (.int (nI (b p))), l2]) (sk' := [.int 59, .int (nI (b p)), .ref 53]) (st' := s6) (fun _ h => h) ?_
          refine w_cmp_ne rfl (fun h3 => ?_) (fun h3 => ?_)
          · replace h3 : ¬ (b p = 59) := fun hh => h3 ((nI_eq (a := (b p)) (b := 59) (by omega) (by omega)).mpr hh)
            refine w_blk 2 (pc' := 294) (ls' := [some (.ref 53), some (.int (nI (b p))), l2]) (sk' := []) (st' := ((mU s6.1 53 15 8), s6.2)) (fun _ h => h) ?_
            have e4 : tk b L p = 101 := e2.trans ((if_neg h2).trans ((if_neg h1).trans (if_neg h3)))
            exact w_vret rfl rfl (hq ((mU s6.1 53 15 8), s6.2) ⟨⟨by rw [e1, e3]; exact hA_7, hS_8, by rw [e4]; rfl, 0, hV_9, by decide, fun h => absurd h (by rw [e4]; decide)⟩, (FF.w53 hF_10 (by decide) (by decide))⟩)
          · replace h3 : b p = 59 := (nI_eq (a := (b p)) (b := 59) (by omega) (by omega)).mp (Decidable.not_not.mp h3)
            refine w_blk 3 (pc' := 294) (ls' := [some (.ref 53), some (.int (nI (b p))), l2]) (sk' := []) (st' := ((mU s6.1 53 15 7), s6.2)) (fun _ h => h) ?_
            have e4 : tk b L p = 102 := e2.trans ((if_neg h2).trans ((if_neg h1).trans (if_pos h3)))
            exact w_vret rfl rfl (hq ((mU s6.1 53 15 7), s6.2) ⟨⟨by rw [e1, e3]; exact hA_7, hS_8, by rw [e4]; rfl, 0, hV_9, by decide, fun h => absurd h (by rw [e4]; decide)⟩, (FF.w53 hF_10 (by decide) (by decide))⟩)
        · replace h2 := pI_ne.mp h2
          have htd := tend_dig (L := L) h2
          have key2 : ∀ (k : Nat) (s0 : mSt), p + k = tend b L p → FF [53] [13, 14, 15, 16] st s0 → s0.1 53 13 = nI (p + k) → s0.1 53 14 = nI p → s0.1 53 16 = nI (vl b p k) → mW (mMC mT (d + 1)) (0, fun _ => 0) (mAtL P_X10_next) none Q 225 [some (.ref 53), some (.int (nI (b p))), l2] [] s0 := by
            intro k s0 hke hf hA hS hV
            have hdd : ∀ j, j < k → 48 ≤ b (p + j) ∧ b (p + j) ≤ 57 := fun j hj => dig_i.mp (htd.2 (p + j) (by omega) (by omega))
            have hvl := vl_le k hdd
            have htn := tokN_vl (k := k) (by omega) hdd
            have e4 : tk b L p = tokN b p (p + k) := by rw [e2, ← hke]; exact if_pos h2
            rw [← e4] at htn
            have hfin : ∀ x : Nat, x = srt (tk b L p) → MK (mU s0.1 53 15 (nI x), s0.2) b L p ∧ FF [53] [13, 14, 15, 16] st (mU s0.1 53 15 (nI x), s0.2) := fun x hx => ⟨⟨by rw [e1, ← hke]; exact hA, hS, by rw [← hx]; rfl, vl b p k, hV, hvl, htn.2⟩, (FF.w53 hf (by decide) (by decide))⟩
            refine w_blk 3 (pc' := 230) (ls' := [some (.ref 53), some (.int (nI (b p))), l2]) (sk' := [.int (s0.1 53 16), .ref 53]) (st' := s0) (fun _ h => h) ?_
            rw [hV]
            refine w_blk 1 (pc' := 232) (ls' := [some (.ref 53), some (.int (nI (b p))), l2]) (sk' := [.int 99, .int (nI (vl b p k)), .ref 53]) (st' := s0) (fun _ h => h) ?_
            refine w_cmp_gt rfl (fun h1 => ?_) (fun h1 => ?_)
            · replace h1 : 99 < vl b p k := (nI_ltI (a := 99) (b := (vl b p k)) (by omega) (by omega)).mp h1
              refine w_blk 2 (pc' := 261) (ls' := [some (.ref 53), some (.int (nI (b p))), l2]) (sk' := [.int 8, .ref 53]) (st' := s0) (fun _ h => h) ?_
              refine w_blk 2 (pc' := 294) (ls' := [some (.ref 53), some (.int (nI (b p))), l2]) (sk' := []) (st' := ((mU s0.1 53 15 8), s0.2)) (fun _ h => h) ?_
              exact w_vret rfl rfl (hq ((mU s0.1 53 15 8), s0.2) (hfin 8 (htn.1.trans (if_pos (by omega))).symm))
            · replace h1 : ¬ (99 < vl b p k) := fun hh => h1 ((nI_ltI (a := 99) (b := (vl b p k)) (by omega) (by omega)).mpr hh)
              refine w_blk 2 (pc' := 238) (ls' := [some (.ref 53), some (.int (nI (b p))), l2]) (sk' := [.int 48, .int (nI (b p)), .ref 53]) (st' := s0) (fun _ h => h) ?_
              refine w_cmp_ne rfl (fun h2 => ?_) (fun h2 => ?_)
              · replace h2 : ¬ (b p = 48) := fun hh => h2 ((nI_eq (a := (b p)) (b := 48) (by omega) (by omega)).mpr hh)
                refine w_blk 1 (pc' := 261) (ls' := [some (.ref 53), some (.int (nI (b p))), l2]) (sk' := [.int 6, .ref 53]) (st' := s0) (fun _ h => h) ?_
                refine w_blk 2 (pc' := 294) (ls' := [some (.ref 53), some (.int (nI (b p))), l2]) (sk' := []) (st' := ((mU s0.1 53 15 6), s0.2)) (fun _ h => h) ?_
                exact w_vret rfl rfl (hq ((mU s0.1 53 15 6), s0.2) (hfin 6 (htn.1.trans (if_neg (by omega))).symm))
              · replace h2 : b p = 48 := (nI_eq (a := (b p)) (b := 48) (by omega) (by omega)).mp (Decidable.not_not.mp h2)
                refine w_blk 2 (pc' := 245) (ls' := [some (.ref 53), some (.int (nI (b p))), l2]) (sk' := [.int (s0.1 53 13), .ref 53]) (st' := s0) (fun _ h => h) ?_
                rw [hA]
                refine w_blk 2 (pc' := 249) (ls' := [some (.ref 53), some (.int (nI (b p))), l2]) (sk' := [.int (s0.1 53 14), .int (nI (p + k)), .ref 53]) (st' := s0) (fun _ h => h) ?_
                rw [hS]
                refine w_blk 1 (pc' := 250) (ls' := [some (.ref 53), some (.int (nI (b p))), l2]) (sk' := [.int ((nI (p + k)) - (nI p)), .ref 53]) (st' := s0) (fun _ h => h) ?_
                rw [show ((nI (p + k)) - (nI p)) = nI ((p + k) - p) from pk_sub (a := p + k) (b := p) (by omega)]
                refine w_blk 1 (pc' := 251) (ls' := [some (.ref 53), some (.int (nI (b p))), l2]) (sk' := [.int 1, .int (nI ((p + k) - p)), .ref 53]) (st' := s0) (fun _ h => h) ?_
                refine w_cmp_le rfl (fun h3 => ?_) (fun h3 => ?_)
                · replace h3 : (p + k) - p ≤ 1 := (nI_leI (a := ((p + k) - p)) (b := 1) (by omega) (by omega)).mp h3
                  refine w_blk 1 (pc' := 261) (ls' := [some (.ref 53), some (.int (nI (b p))), l2]) (sk' := [.int 6, .ref 53]) (st' := s0) (fun _ h => h) ?_
                  refine w_blk 2 (pc' := 294) (ls' := [some (.ref 53), some (.int (nI (b p))), l2]) (sk' := []) (st' := ((mU s0.1 53 15 6), s0.2)) (fun _ h => h) ?_
                  exact w_vret rfl rfl (hq ((mU s0.1 53 15 6), s0.2) (hfin 6 (htn.1.trans (if_neg (by omega))).symm))
                · replace h3 : ¬ ((p + k) - p ≤ 1) := fun hh => h3 ((nI_leI (a := ((p + k) - p)) (b := 1) (by omega) (by omega)).mpr hh)
                  refine w_blk 2 (pc' := 261) (ls' := [some (.ref 53), some (.int (nI (b p))), l2]) (sk' := [.int 8, .ref 53]) (st' := s0) (fun _ h => h) ?_
                  refine w_blk 2 (pc' := 294) (ls' := [some (.ref 53), some (.int (nI (b p))), l2]) (sk' := []) (st' := ((mU s0.1 53 15 8), s0.2)) (fun _ h => h) ?_
                  exact w_vret rfl rfl (hq ((mU s0.1 53 15 8), s0.2) (hfin 8 (htn.1.trans (if_pos (by omega))).symm))
          have key1 : ∀ (m k : Nat) (s0 : mSt), L - (p + k) = m → p + k ≤ L → wh (dig b) L (p + k) = tend b L p → (∀ j, j < k → 48 ≤ b (p + j) ∧ b (p + j) ≤ 57) → FF [53] [13, 14, 15, 16] st s0 → s0.1 53 13 = nI (p + k) → s0.1 53 14 = nI p → s0.1 53 16 = nI (vl b p k) → mW (mMC mT (d + 1)) (0, fun _ => 0) (mAtL P_X10_next) none Q 163 [some (.ref 53), some (.int (nI (b p))), l2] [] s0 := by
            intro m
            induction m with
            | zero =>
              intro k s0 hm hkL hwe hdd hf hA hS hV
              have hP0 := hPf s0 hf
              have hpk : p + k = L := by omega
              refine w_blk 1 (pc' := 164) (ls' := [some (.ref 53), some (.int (nI (b p))), l2]) (sk' := [.ref 53]) (st' := s0) (fun _ h => h) ?_
              refine w_callV (As := [.ref 53]) (rest := []) rfl rfl rfl (Nat.le_of_ble_eq_true rfl) (Nat.le_of_ble_eq_true rfl) (by first | exact Or.inl ⟨rfl, rfl⟩ | exact Or.inr ⟨rfl, rfl⟩) (m_here_n (d + 0) L b (p + k) s0 hP0 hb hL hA hpk) ?_
              refine w_blk 2 (pc' := 171) (ls' := [some (.ref 53), some (.int (nI (b p))), l2]) (sk' := [.int 57, .int 48, .int (-1)]) (st' := s0) (fun _ h => h) ?_
              refine w_callS (As := [.int (-1), .int 48, .int 57]) (rest := []) rfl rfl rfl (Nat.le_of_ble_eq_true rfl) (Nat.le_of_ble_eq_true rfl) (m_in (d + 0) (-1) 48 57 s0) ?_
              rw [show pI ((48 : Int32) ≤ -1 ∧ (-1 : Int32) ≤ 57) = 0 from pI_f (by decide)]
              refine w_if_eq rfl (fun _ => ?_) (fun hno => absurd rfl hno)
              exact key2 k s0 (by rw [← hwe]; exact (wh_no (fun e => absurd e.1 (by omega))).symm) hf hA hS hV
            | succ m ih =>
              intro k s0 hm hkL hwe hdd hf hA hS hV
              have hP0 := hPf s0 hf
              have hpk : p + k < L := by omega
              have hbk := hb (p + k) hpk
              have hvl := vl_le k hdd
              refine w_blk 1 (pc' := 164) (ls' := [some (.ref 53), some (.int (nI (b p))), l2]) (sk' := [.ref 53]) (st' := s0) (fun _ h => h) ?_
              refine w_callV (As := [.ref 53]) (rest := []) rfl rfl rfl (Nat.le_of_ble_eq_true rfl) (Nat.le_of_ble_eq_true rfl) (by first | exact Or.inl ⟨rfl, rfl⟩ | exact Or.inr ⟨rfl, rfl⟩) (m_here_y (d + 0) L b (p + k) s0 hP0 hb hL hA hpk) ?_
              refine w_blk 2 (pc' := 171) (ls' := [some (.ref 53), some (.int (nI (b p))), l2]) (sk' := [.int 57, .int 48, .int (nI (b (p + k)))]) (st' := s0) (fun _ h => h) ?_
              refine w_callS (As := [.int (nI (b (p + k))), .int 48, .int 57]) (rest := []) rfl rfl rfl (Nat.le_of_ble_eq_true rfl) (Nat.le_of_ble_eq_true rfl) (m_in (d + 0) (nI (b (p + k))) 48 57 s0) ?_
              rw [in_d hbk]
              refine w_if_eq rfl (fun h4 => ?_) (fun h4 => ?_)
              · replace h4 := pI_eq0.mp h4
                exact key2 k s0 (by rw [← hwe]; exact (wh_no (fun e => h4 e.2)).symm) hf hA hS hV
              · replace h4 := pI_ne.mp h4
                have hdk := dig_i.mp h4
                refine w_blk 3 (pc' := 182) (ls' := [some (.ref 53), some (.int (nI (b p))), l2]) (sk' := [.int (s0.1 53 16), .ref 53]) (st' := s0) (fun _ h => h) ?_
                rw [hV]
                refine w_blk 1 (pc' := 184) (ls' := [some (.ref 53), some (.int (nI (b p))), l2]) (sk' := [.int 99, .int (nI (vl b p k)), .ref 53]) (st' := s0) (fun _ h => h) ?_
                refine w_cmp_le rfl (fun h5 => ?_) (fun h5 => ?_)
                · replace h5 : vl b p k ≤ 99 := (nI_leI (a := (vl b p k)) (b := 99) (by omega) (by omega)).mp h5
                  refine w_blk 3 (pc' := 200) (ls' := [some (.ref 53), some (.int (nI (b p))), l2]) (sk' := [.int (s0.1 53 16), .int 10, .ref 53]) (st' := s0) (fun _ h => h) ?_
                  rw [hV]
                  refine w_blk 1 (pc' := 201) (ls' := [some (.ref 53), some (.int (nI (b p))), l2]) (sk' := [.int (10 * (nI (vl b p k))), .ref 53]) (st' := s0) (fun _ h => h) ?_
                  rw [show (10 * (nI (vl b p k))) = nI (10 * (vl b p k)) from pk_mul 10 (vl b p k)]
                  refine w_blk 1 (pc' := 202) (ls' := [some (.ref 53), some (.int (nI (b p))), l2]) (sk' := [.ref 53, .int (nI (10 * (vl b p k))), .ref 53]) (st' := s0) (fun _ h => h) ?_
                  refine w_callV (As := [.ref 53]) (rest := [.int (nI (10 * (vl b p k))), .ref 53]) rfl rfl rfl (Nat.le_of_ble_eq_true rfl) (Nat.le_of_ble_eq_true rfl) (by first | exact Or.inl ⟨rfl, rfl⟩ | exact Or.inr ⟨rfl, rfl⟩) (m_here_y (d + 0) L b (p + k) s0 hP0 hb hL hA hpk) ?_
                  refine w_blk 1 (pc' := 206) (ls' := [some (.ref 53), some (.int (nI (b p))), l2]) (sk' := [.int ((nI (10 * (vl b p k))) + (nI (b (p + k)))), .ref 53]) (st' := s0) (fun _ h => h) ?_
                  rw [show ((nI (10 * (vl b p k))) + (nI (b (p + k)))) = nI ((10 * (vl b p k)) + (b (p + k))) from nI_add (10 * (vl b p k)) (b (p + k))]
                  refine w_blk 2 (pc' := 209) (ls' := [some (.ref 53), some (.int (nI (b p))), l2]) (sk' := [.int ((nI ((10 * (vl b p k)) + (b (p + k)))) - 48), .ref 53]) (st' := s0) (fun _ h => h) ?_
                  rw [show ((nI ((10 * (vl b p k)) + (b (p + k)))) - 48) = nI (((10 * (vl b p k)) + (b (p + k))) - 48) from pk_sub (a := (10 * (vl b p k)) + (b (p + k))) (b := 48) (by omega)]
                  refine w_blk 4 (pc' := 217) (ls' := [some (.ref 53), some (.int (nI (b p))), l2]) (sk' := [.int (s0.1 53 13), .ref 53]) (st' := ((mU s0.1 53 16 (nI (((10 * (vl b p k)) + (b (p + k))) - 48))), s0.2)) (fun _ h => h) ?_
                  rw [hA]
                  refine w_blk 2 (pc' := 219) (ls' := [some (.ref 53), some (.int (nI (b p))), l2]) (sk' := [.int ((nI (p + k)) + 1), .ref 53]) (st' := ((mU s0.1 53 16 (nI (((10 * (vl b p k)) + (b (p + k))) - 48))), s0.2)) (fun _ h => h) ?_
                  rw [show ((nI (p + k)) + 1) = nI ((p + k) + 1) from nI_add (p + k) 1]
                  refine w_blk 2 (pc' := 163) (ls' := [some (.ref 53), some (.int (nI (b p))), l2]) (sk' := []) (st' := ((mU (mU s0.1 53 16 (nI (((10 * (vl b p k)) + (b (p + k))) - 48))) 53 13 (nI ((p + k) + 1))), s0.2)) (fun _ h => h) ?_
                  exact ih (k + 1) ((mU (mU s0.1 53 16 (nI (((10 * (vl b p k)) + (b (p + k))) - 48))) 53 13 (nI ((p + k) + 1))), s0.2) (by omega) (by omega) (by rw [← hwe]; exact (wh_go hpk h4).symm) (fun j hj => if e : j = k then (by rw [e]; exact hdk) else hdd j (by omega)) (FF.w53 (FF.w53 hf (by decide) (by decide)) (by decide) (by decide)) rfl hS (show nI (((10 * (vl b p k)) + (b (p + k))) - 48) = _ from congrArg nI (((show 10 * vl b p k + b (p + k) - 48 = 10 * vl b p k + (b (p + k) - 48) by omega).trans (if_neg (show ¬ 99 < vl b p k by omega)).symm).trans vl_s.symm))
                · replace h5 : ¬ (vl b p k ≤ 99) := fun hh => h5 ((nI_leI (a := (vl b p k)) (b := 99) (by omega) (by omega)).mpr hh)
                  refine w_blk 2 (pc' := 191) (ls' := [some (.ref 53), some (.int (nI (b p))), l2]) (sk' := [.int (s0.1 53 16), .ref 53]) (st' := s0) (fun _ h => h) ?_
                  rw [hV]
                  refine w_blk 1 (pc' := 209) (ls' := [some (.ref 53), some (.int (nI (b p))), l2]) (sk' := [.int (nI (vl b p k)), .ref 53]) (st' := s0) (fun _ h => h) ?_
                  refine w_blk 4 (pc' := 217) (ls' := [some (.ref 53), some (.int (nI (b p))), l2]) (sk' := [.int (s0.1 53 13), .ref 53]) (st' := ((mU s0.1 53 16 (nI (vl b p k))), s0.2)) (fun _ h => h) ?_
                  rw [hA]
                  refine w_blk 2 (pc' := 219) (ls' := [some (.ref 53), some (.int (nI (b p))), l2]) (sk' := [.int ((nI (p + k)) + 1), .ref 53]) (st' := ((mU s0.1 53 16 (nI (vl b p k))), s0.2)) (fun _ h => h) ?_
                  rw [show ((nI (p + k)) + 1) = nI ((p + k) + 1) from nI_add (p + k) 1]
                  refine w_blk 2 (pc' := 163) (ls' := [some (.ref 53), some (.int (nI (b p))), l2]) (sk' := []) (st' := ((mU (mU s0.1 53 16 (nI (vl b p k))) 53 13 (nI ((p + k) + 1))), s0.2)) (fun _ h => h) ?_
                  exact ih (k + 1) ((mU (mU s0.1 53 16 (nI (vl b p k))) 53 13 (nI ((p + k) + 1))), s0.2) (by omega) (by omega) (by rw [← hwe]; exact (wh_go hpk h4).symm) (fun j hj => if e : j = k then (by rw [e]; exact hdk) else hdd j (by omega)) (FF.w53 (FF.w53 hf (by decide) (by decide)) (by decide) (by decide)) rfl hS (show nI (vl b p k) = _ from congrArg nI (((if_pos (show 99 < vl b p k by omega)).symm).trans vl_s.symm))
          exact key1 _ 0 s1 rfl (by omega) (by rw [htd.1]; exact wh_go hp1 h2) (fun j hj => absurd hj (Nat.not_lt_zero _)) hF_5 hA_2 hS_3 hV_4
      · replace h1 := pI_ne.mp h1
        have htl := tend_ltr (L := L) h1
        refine w_blk 2 (pc' := 65) (ls' := [some (.ref 53), some (.int (nI (b p))), some (.int 0)]) (sk' := []) (st' := s1) (fun _ h => h) ?_
        have key2 : ∀ (k : Nat) (s0 : mSt), p + k = tend b L p → FF [53] [13, 14, 15, 16] st s0 → s0.1 53 13 = nI (p + k) → s0.1 53 14 = nI p → s0.1 53 16 = nI 0 → mW (mMC mT (d + 1)) (0, fun _ => 0) (mAtL P_X10_next) none Q 123 [some (.ref 53), some (.int (nI (b p))), some (.int (nI (cdc b p k)))] [] s0 := by
          intro k s0 hke hf hA hS hV
          have hll : ∀ j, j < k → 97 ≤ b (p + j) ∧ b (p + j) ≤ 122 := fun j hj => ltr_i.mp (htl.2 (p + j) (by omega) (by omega))
          have htm := tokW_mean hll
          have hdn : ¬ dig b p = true := fun e => by have a1 := dig_i.mp e; have a2 := ltr_i.mp h1; omega
          have e4 : tk b L p = tokW b p (p + k) := by rw [e2, ← hke]; exact (if_neg hdn).trans (if_pos h1)
          rw [← e4] at htm
          have hno : ¬ tk b L p < 100 := by have := tokW_ge b p (p + k); omega
          have hcd := cdc_le hll
          have hfin : ∀ x : Nat, x = (if 6 < k then 0 else cod b p k) → MK (mU s0.1 53 15 (nI (mean x)), s0.2) b L p ∧ FF [53] [13, 14, 15, 16] st (mU s0.1 53 15 (nI (mean x)), s0.2) := fun x hx => ⟨⟨by rw [e1, ← hke]; exact hA, hS, by rw [htm, ← hx]; rfl, 0, hV, by decide, fun h => absurd h hno⟩, (FF.w53 hf (by decide) (by decide))⟩
          refine w_blk 3 (pc' := 128) (ls' := [some (.ref 53), some (.int (nI (b p))), some (.int (nI (cdc b p k)))]) (sk' := [.int (s0.1 53 13), .ref 53]) (st' := s0) (fun _ h => h) ?_
          rw [hA]
          refine w_blk 2 (pc' := 132) (ls' := [some (.ref 53), some (.int (nI (b p))), some (.int (nI (cdc b p k)))]) (sk' := [.int (s0.1 53 14), .int (nI (p + k)), .ref 53]) (st' := s0) (fun _ h => h) ?_
          rw [hS]
          refine w_blk 1 (pc' := 133) (ls' := [some (.ref 53), some (.int (nI (b p))), some (.int (nI (cdc b p k)))]) (sk' := [.int ((nI (p + k)) - (nI p)), .ref 53]) (st' := s0) (fun _ h => h) ?_
          rw [show ((nI (p + k)) - (nI p)) = nI ((p + k) - p) from pk_sub (a := p + k) (b := p) (by omega)]
          refine w_blk 1 (pc' := 135) (ls' := [some (.ref 53), some (.int (nI (b p))), some (.int (nI (cdc b p k)))]) (sk' := [.int 6, .int (nI ((p + k) - p)), .ref 53]) (st' := s0) (fun _ h => h) ?_
          refine w_cmp_le rfl (fun h1 => ?_) (fun h1 => ?_)
          · replace h1 : (p + k) - p ≤ 6 := (nI_leI (a := ((p + k) - p)) (b := 6) (by omega) (by omega)).mp h1
            refine w_blk 1 (pc' := 143) (ls' := [some (.ref 53), some (.int (nI (b p))), some (.int (nI (cdc b p k)))]) (sk' := [.int (nI (cdc b p k)), .ref 53]) (st' := s0) (fun _ h => h) ?_
            refine w_callS (As := [.int (nI (cdc b p k))]) (rest := [.ref 53]) rfl rfl rfl (Nat.le_of_ble_eq_true rfl) (Nat.le_of_ble_eq_true rfl) (m_meaning (d + 0) (cdc b p k) s0 (Nat.lt_trans hcd (by decide))) ?_
            refine w_blk 2 (pc' := 294) (ls' := [some (.ref 53), some (.int (nI (b p))), some (.int (nI (cdc b p k)))]) (sk' := []) (st' := ((mU s0.1 53 15 (nI (mean (cdc b p k)))), s0.2)) (fun _ h => h) ?_
            exact w_vret rfl rfl (hq ((mU s0.1 53 15 (nI (mean (cdc b p k)))), s0.2) (hfin (cdc b p k) (cdc_i (by omega))))
          · replace h1 : ¬ ((p + k) - p ≤ 6) := fun hh => h1 ((nI_leI (a := ((p + k) - p)) (b := 6) (by omega) (by omega)).mpr hh)
            refine w_blk 2 (pc' := 143) (ls' := [some (.ref 53), some (.int (nI (b p))), some (.int (nI (cdc b p k)))]) (sk' := [.int 0, .ref 53]) (st' := s0) (fun _ h => h) ?_
            refine w_callS (As := [.int (nI 0)]) (rest := [.ref 53]) rfl rfl rfl (Nat.le_of_ble_eq_true rfl) (Nat.le_of_ble_eq_true rfl) (m_meaning (d + 0) 0 s0 (by decide)) ?_
            refine w_blk 2 (pc' := 294) (ls' := [some (.ref 53), some (.int (nI (b p))), some (.int (nI (cdc b p k)))]) (sk' := []) (st' := ((mU s0.1 53 15 (nI (mean 0))), s0.2)) (fun _ h => h) ?_
            exact w_vret rfl rfl (hq ((mU s0.1 53 15 (nI (mean 0))), s0.2) (hfin 0 ((if_pos (by omega)).symm)))
        have key1 : ∀ (m k : Nat) (s0 : mSt), L - (p + k) = m → p + k ≤ L → wh (ltr b) L (p + k) = tend b L p → (∀ j, j < k → 97 ≤ b (p + j) ∧ b (p + j) ≤ 122) → FF [53] [13, 14, 15, 16] st s0 → s0.1 53 13 = nI (p + k) → s0.1 53 14 = nI p → s0.1 53 16 = nI 0 → mW (mMC mT (d + 1)) (0, fun _ => 0) (mAtL P_X10_next) none Q 65 [some (.ref 53), some (.int (nI (b p))), some (.int (nI (cdc b p k)))] [] s0 := by
          intro m
          induction m with
          | zero =>
            intro k s0 hm hkL hwe hll hf hA hS hV
            have hP0 := hPf s0 hf
            have hpk : p + k = L := by omega
            refine w_blk 1 (pc' := 66) (ls' := [some (.ref 53), some (.int (nI (b p))), some (.int (nI (cdc b p k)))]) (sk' := [.ref 53]) (st' := s0) (fun _ h => h) ?_
            refine w_callV (As := [.ref 53]) (rest := []) rfl rfl rfl (Nat.le_of_ble_eq_true rfl) (Nat.le_of_ble_eq_true rfl) (by first | exact Or.inl ⟨rfl, rfl⟩ | exact Or.inr ⟨rfl, rfl⟩) (m_here_n (d + 0) L b (p + k) s0 hP0 hb hL hA hpk) ?_
            refine w_blk 2 (pc' := 73) (ls' := [some (.ref 53), some (.int (nI (b p))), some (.int (nI (cdc b p k)))]) (sk' := [.int 122, .int 97, .int (-1)]) (st' := s0) (fun _ h => h) ?_
            refine w_callS (As := [.int (-1), .int 97, .int 122]) (rest := []) rfl rfl rfl (Nat.le_of_ble_eq_true rfl) (Nat.le_of_ble_eq_true rfl) (m_in (d + 0) (-1) 97 122 s0) ?_
            rw [show pI ((97 : Int32) ≤ -1 ∧ (-1 : Int32) ≤ 122) = 0 from pI_f (by decide)]
            refine w_if_eq rfl (fun _ => ?_) (fun hno => absurd rfl hno)
            exact key2 k s0 (by rw [← hwe]; exact (wh_no (fun e => absurd e.1 (by omega))).symm) hf hA hS hV
          | succ m ih =>
            intro k s0 hm hkL hwe hll hf hA hS hV
            have hP0 := hPf s0 hf
            have hpk : p + k < L := by omega
            have hbk := hb (p + k) hpk
            have hcd := cdc_le hll
            have h27 : 27 ^ 6 = 387420489 := by decide
            refine w_blk 1 (pc' := 66) (ls' := [some (.ref 53), some (.int (nI (b p))), some (.int (nI (cdc b p k)))]) (sk' := [.ref 53]) (st' := s0) (fun _ h => h) ?_
            refine w_callV (As := [.ref 53]) (rest := []) rfl rfl rfl (Nat.le_of_ble_eq_true rfl) (Nat.le_of_ble_eq_true rfl) (by first | exact Or.inl ⟨rfl, rfl⟩ | exact Or.inr ⟨rfl, rfl⟩) (m_here_y (d + 0) L b (p + k) s0 hP0 hb hL hA hpk) ?_
            refine w_blk 2 (pc' := 73) (ls' := [some (.ref 53), some (.int (nI (b p))), some (.int (nI (cdc b p k)))]) (sk' := [.int 122, .int 97, .int (nI (b (p + k)))]) (st' := s0) (fun _ h => h) ?_
            refine w_callS (As := [.int (nI (b (p + k))), .int 97, .int 122]) (rest := []) rfl rfl rfl (Nat.le_of_ble_eq_true rfl) (Nat.le_of_ble_eq_true rfl) (m_in (d + 0) (nI (b (p + k))) 97 122 s0) ?_
            rw [in_l hbk]
            refine w_if_eq rfl (fun h4 => ?_) (fun h4 => ?_)
            · replace h4 := pI_eq0.mp h4
              exact key2 k s0 (by rw [← hwe]; exact (wh_no (fun e => h4 e.2)).symm) hf hA hS hV
            · replace h4 := pI_ne.mp h4
              have hlk := ltr_i.mp h4
              refine w_blk 2 (pc' := 83) (ls' := [some (.ref 53), some (.int (nI (b p))), some (.int (nI (cdc b p k)))]) (sk' := [.int (s0.1 53 13)]) (st' := s0) (fun _ h => h) ?_
              rw [hA]
              refine w_blk 2 (pc' := 87) (ls' := [some (.ref 53), some (.int (nI (b p))), some (.int (nI (cdc b p k)))]) (sk' := [.int (s0.1 53 14), .int (nI (p + k))]) (st' := s0) (fun _ h => h) ?_
              rw [hS]
              refine w_blk 1 (pc' := 88) (ls' := [some (.ref 53), some (.int (nI (b p))), some (.int (nI (cdc b p k)))]) (sk' := [.int ((nI (p + k)) - (nI p))]) (st' := s0) (fun _ h => h) ?_
              rw [show ((nI (p + k)) - (nI p)) = nI ((p + k) - p) from pk_sub (a := p + k) (b := p) (by omega)]
              refine w_blk 1 (pc' := 90) (ls' := [some (.ref 53), some (.int (nI (b p))), some (.int (nI (cdc b p k)))]) (sk' := [.int 6, .int (nI ((p + k) - p))]) (st' := s0) (fun _ h => h) ?_
              refine w_cmp_ge rfl (fun h5 => ?_) (fun h5 => ?_)
              · replace h5 : 6 ≤ (p + k) - p := (nI_leI (a := 6) (b := ((p + k) - p)) (by omega) (by omega)).mp h5
                refine w_blk 1 (pc' := 109) (ls' := [some (.ref 53), some (.int (nI (b p))), some (.int (nI (cdc b p k)))]) (sk' := [.int 0]) (st' := s0) (fun _ h => h) ?_
                show mW (mMC mT (d + 1)) (0, fun _ => 0) (mAtL P_X10_next) none Q 109 [some (.ref 53), some (.int (nI (b p))), some (.int (nI (cdc b p k)))] [.int (nI 0)] s0
                rw [show (nI 0) = nI (cdc b p (k + 1)) from congrArg nI (cdc_0 (by omega)).symm]
                refine w_blk 4 (pc' := 115) (ls' := [some (.ref 53), some (.int (nI (b p))), some (.int (nI (cdc b p (k + 1))))]) (sk' := [.int (s0.1 53 13), .ref 53]) (st' := s0) (fun _ h => h) ?_
                rw [hA]
                refine w_blk 2 (pc' := 117) (ls' := [some (.ref 53), some (.int (nI (b p))), some (.int (nI (cdc b p (k + 1))))]) (sk' := [.int ((nI (p + k)) + 1), .ref 53]) (st' := s0) (fun _ h => h) ?_
                rw [show ((nI (p + k)) + 1) = nI ((p + k) + 1) from nI_add (p + k) 1]
                refine w_blk 2 (pc' := 65) (ls' := [some (.ref 53), some (.int (nI (b p))), some (.int (nI (cdc b p (k + 1))))]) (sk' := []) (st' := ((mU s0.1 53 13 (nI ((p + k) + 1))), s0.2)) (fun _ h => h) ?_
                exact ih (k + 1) ((mU s0.1 53 13 (nI ((p + k) + 1))), s0.2) (by omega) (by omega) (by rw [← hwe]; exact (wh_go hpk h4).symm) (fun j hj => if e : j = k then (by rw [e]; exact hlk) else hll j (by omega)) (FF.w53 hf (by decide) (by decide)) rfl hS hV
              · replace h5 : ¬ (6 ≤ (p + k) - p) := fun hh => h5 ((nI_leI (a := 6) (b := ((p + k) - p)) (by omega) (by omega)).mpr hh)
                refine w_blk 3 (pc' := 97) (ls' := [some (.ref 53), some (.int (nI (b p))), some (.int (nI (cdc b p k)))]) (sk' := [.int (27 * (nI (cdc b p k)))]) (st' := s0) (fun _ h => h) ?_
                rw [show (27 * (nI (cdc b p k))) = nI (27 * (cdc b p k)) from pk_mul 27 (cdc b p k)]
                refine w_blk 1 (pc' := 98) (ls' := [some (.ref 53), some (.int (nI (b p))), some (.int (nI (cdc b p k)))]) (sk' := [.ref 53, .int (nI (27 * (cdc b p k)))]) (st' := s0) (fun _ h => h) ?_
                refine w_callV (As := [.ref 53]) (rest := [.int (nI (27 * (cdc b p k)))]) rfl rfl rfl (Nat.le_of_ble_eq_true rfl) (Nat.le_of_ble_eq_true rfl) (by first | exact Or.inl ⟨rfl, rfl⟩ | exact Or.inr ⟨rfl, rfl⟩) (m_here_y (d + 0) L b (p + k) s0 hP0 hb hL hA hpk) ?_
                refine w_blk 1 (pc' := 102) (ls' := [some (.ref 53), some (.int (nI (b p))), some (.int (nI (cdc b p k)))]) (sk' := [.int ((nI (27 * (cdc b p k))) + (nI (b (p + k))))]) (st' := s0) (fun _ h => h) ?_
                rw [show ((nI (27 * (cdc b p k))) + (nI (b (p + k)))) = nI ((27 * (cdc b p k)) + (b (p + k))) from nI_add (27 * (cdc b p k)) (b (p + k))]
                refine w_blk 2 (pc' := 105) (ls' := [some (.ref 53), some (.int (nI (b p))), some (.int (nI (cdc b p k)))]) (sk' := [.int ((nI ((27 * (cdc b p k)) + (b (p + k)))) - 96)]) (st' := s0) (fun _ h => h) ?_
                rw [show ((nI ((27 * (cdc b p k)) + (b (p + k)))) - 96) = nI (((27 * (cdc b p k)) + (b (p + k))) - 96) from pk_sub (a := (27 * (cdc b p k)) + (b (p + k))) (b := 96) (by omega)]
                refine w_blk 1 (pc' := 109) (ls' := [some (.ref 53), some (.int (nI (b p))), some (.int (nI (cdc b p k)))]) (sk' := [.int (nI (((27 * (cdc b p k)) + (b (p + k))) - 96))]) (st' := s0) (fun _ h => h) ?_
                rw [show ((27 * (cdc b p k)) + (b (p + k))) - 96 = cdc b p (k + 1) from cdc_s (by omega) hlk.1]
                refine w_blk 4 (pc' := 115) (ls' := [some (.ref 53), some (.int (nI (b p))), some (.int (nI (cdc b p (k + 1))))]) (sk' := [.int (s0.1 53 13), .ref 53]) (st' := s0) (fun _ h => h) ?_
                rw [hA]
                refine w_blk 2 (pc' := 117) (ls' := [some (.ref 53), some (.int (nI (b p))), some (.int (nI (cdc b p (k + 1))))]) (sk' := [.int ((nI (p + k)) + 1), .ref 53]) (st' := s0) (fun _ h => h) ?_
                rw [show ((nI (p + k)) + 1) = nI ((p + k) + 1) from nI_add (p + k) 1]
                refine w_blk 2 (pc' := 65) (ls' := [some (.ref 53), some (.int (nI (b p))), some (.int (nI (cdc b p (k + 1))))]) (sk' := []) (st' := ((mU s0.1 53 13 (nI ((p + k) + 1))), s0.2)) (fun _ h => h) ?_
                exact ih (k + 1) ((mU s0.1 53 13 (nI ((p + k) + 1))), s0.2) (by omega) (by omega) (by rw [← hwe]; exact (wh_go hpk h4).symm) (fun j hj => if e : j = k then (by rw [e]; exact hlk) else hll j (by omega)) (FF.w53 hf (by decide) (by decide)) rfl hS hV
        exact key1 _ 0 s1 rfl (by omega) (by rw [htl.1]; exact wh_go hp1 h1) (fun j hj => absurd hj (Nat.not_lt_zero _)) hF_5 hA_2 hS_3 hV_4
  suffices keyA : ∀ (m j : Nat) (s0 : mSt), L - j = m → j ≤ L → skB b L j = skB b L i → FF [53] [13, 14, 15, 16] st s0 → s0.1 53 13 = nI j → mW (mMC mT (d + 1)) (0, fun _ => 0) (mAtL P_X10_next) none Q 0 [some (.ref 53), none, none] [] s0 from keyA _ i st rfl hi rfl FF.rf hA
  intro m
  induction m with
  | zero =>
    intro j s0 hm hjL hj hf hA
    have hP0 := hPf s0 hf
    have hjl : j = L := by omega
    refine w_blk 1 (pc' := 1) (ls' := [some (.ref 53), none, none]) (sk' := [.ref 53]) (st' := s0) (fun _ h => h) ?_
    refine w_callV (As := [.ref 53]) (rest := []) rfl rfl rfl (Nat.le_of_ble_eq_true rfl) (Nat.le_of_ble_eq_true rfl) (by first | exact Or.inl ⟨rfl, rfl⟩ | exact Or.inr ⟨rfl, rfl⟩) (m_here_n (d + 0) L b j s0 hP0 hb hL hA hjl) ?_
    refine w_blk 1 (pc' := 6) (ls' := [some (.ref 53), none, none]) (sk' := [.int 32, .int (-1)]) (st' := s0) (fun _ h => h) ?_
    refine w_cmp_ne rfl (fun _ => ?_) (fun hno => absurd (by decide) hno)
    exact keyB j s0 none none hjL (by rw [← hj]; exact (wh_no (fun e => absurd e.1 (by omega))).symm) hf hA
  | succ m ih =>
    intro j s0 hm hjL hj hf hA
    have hP0 := hPf s0 hf
    have hjl : j < L := by omega
    have hbj := hb j hjl
    refine w_blk 1 (pc' := 1) (ls' := [some (.ref 53), none, none]) (sk' := [.ref 53]) (st' := s0) (fun _ h => h) ?_
    refine w_callV (As := [.ref 53]) (rest := []) rfl rfl rfl (Nat.le_of_ble_eq_true rfl) (Nat.le_of_ble_eq_true rfl) (by first | exact Or.inl ⟨rfl, rfl⟩ | exact Or.inr ⟨rfl, rfl⟩) (m_here_y (d + 0) L b j s0 hP0 hb hL hA hjl) ?_
    refine w_blk 1 (pc' := 6) (ls' := [some (.ref 53), none, none]) (sk' := [.int 32, .int (nI (b j))]) (st' := s0) (fun _ h => h) ?_
    refine w_cmp_ne rfl (fun h1 => ?_) (fun h1 => ?_)
    · replace h1 : ¬ (b j = 32) := fun hh => h1 ((nI_eq (a := (b j)) (b := 32) (by omega) (by omega)).mpr hh)
      exact keyB j s0 none none hjL (by rw [← hj]; exact (wh_no (fun e => h1 (blk_i.mp e.2))).symm) hf hA
    · replace h1 : b j = 32 := (nI_eq (a := (b j)) (b := 32) (by omega) (by omega)).mp (Decidable.not_not.mp h1)
      refine w_blk 3 (pc' := 14) (ls' := [some (.ref 53), none, none]) (sk' := [.int (s0.1 53 13), .ref 53]) (st' := s0) (fun _ h => h) ?_
      rw [hA]
      refine w_blk 2 (pc' := 16) (ls' := [some (.ref 53), none, none]) (sk' := [.int ((nI j) + 1), .ref 53]) (st' := s0) (fun _ h => h) ?_
      rw [show ((nI j) + 1) = nI (j + 1) from nI_add j 1]
      refine w_blk 2 (pc' := 0) (ls' := [some (.ref 53), none, none]) (sk' := []) (st' := ((mU s0.1 53 13 (nI (j + 1))), s0.2)) (fun _ h => h) ?_
      exact ih (j + 1) ((mU s0.1 53 13 (nI (j + 1))), s0.2) (by omega) (by omega) (by rw [← hj]; exact (wh_go hjl (blk_i.mpr h1)).symm) (FF.w53 hf (by decide) (by decide)) rfl
