/-! THE TEXT, read by the class: items -/
def XQ (st : mSt) (A : Nat) (p : Nat × Bool) : Prop := st.1 1 4 = nI p.1 ∧ st.1 1 5 = pI (p.2 = true) ∧ p.1 ≤ A
def XTo (st : mSt) (T : Nat → Nat) (A : Nat) : Prop := A ≤ 300 ∧ T A = 100 ∧ (∀ k, T k ≤ 107) ∧ ∀ k, k ≤ A → st.1 3 k = nI (T k)
theorem XQ_e {st s : mSt} {A : Nat} {p : Nat × Bool} (e : s.1 1 = st.1 1) (h : XQ st A p) : XQ s A p := by
  unfold XQ at h ⊢
  rw [e]
  exact h
theorem XTo_e {st s : mSt} {T : Nat → Nat} {A : Nat} (e : s.1 3 = st.1 3) (h : XTo st T A) : XTo s T A := ⟨h.1, h.2.1, h.2.2.1, fun k hk => by rw [e]; exact h.2.2.2 k hk⟩
/-- the reader's own cells: what may change -/
def F1 (st s : mSt) : Prop := Fr [1] st s ∧ Fk 1 [4, 5] st s ∧ s.2 = st.2
theorem F1.rf {st : mSt} : F1 st st := ⟨Fr.rf, Fk.rf, rfl⟩
theorem F1.trans {a b c : mSt} (h1 : F1 a b) (h2 : F1 b c) : F1 a c := ⟨Fr.trans h1.1 h2.1, Fk.trans h1.2.1 h2.2.1, h2.2.2.trans h1.2.2⟩
theorem F1.w {st s : mSt} {k : Nat} {x : Int32} (h : F1 st s) (hk : k ∈ [4, 5]) : F1 st (mU s.1 1 k x, s.2) := ⟨Fr.trans h.1 (Fr.mU (by decide)), Fk.trans h.2.1 (Fk.wr hk), h.2.2⟩
theorem XQ_ne {st : mSt} {T : Nat → Nat} {A : Nat} {p : Nat × Bool} (hQ : XQ st A p) (hT : XTo st T A) (h : T p.1 ≠ 100) : p.1 < A := by
  have h1 := hQ.2.2
  have h2 : p.1 ≠ A := fun e => h (by rw [e]; exact hT.2.1)
  omega
theorem XQ_tok {st : mSt} {T : Nat → Nat} {A : Nat} {p : Nat × Bool} (hQ : XQ st A p) (hT : XTo st T A) : st.1 3 p.1 = nI (T p.1) := hT.2.2.2 _ hQ.2.2
theorem XQ_go {st : mSt} {A : Nat} {p : Nat × Bool} (hQ : XQ st A p) (hf : p.2 = false) (h : p.1 < A) : XQ (mU st.1 1 4 (nI (p.1 + 1)), st.2) A (p.1 + 1, false) := ⟨rfl, (show mU st.1 1 4 (nI (p.1 + 1)) 1 5 = _ from mU_row (by decide)).trans (hQ.2.1.trans (by rw [hf])), h⟩
theorem XQ_no {st : mSt} {A : Nat} {p : Nat × Bool} (hQ : XQ st A p) : XQ (mU st.1 1 5 1, st.2) A (p.1, true) := ⟨(show mU st.1 1 5 1 1 4 = _ from mU_row (by decide)).trans hQ.1, rfl, hQ.2.2⟩
set_option maxRecDepth 20000 in
/-- takeWord(hasRoom) -/
theorem c_takeWord (d : Nat) (A : Nat) (q : Nat × Bool) (ok : Bool) (x : Int32) (st : mSt) (hQ : XQ st A q) (hf : q.2 = false) (hA : q.1 < A) (hx : x = pI (ok = true)) : ∃ (s : mSt), mMC mT (d + 1) 66 [.ref 1, .int x] st (none) s ∧ XQ s A (adv ok q) ∧ F1 st s := by
  suffices H : ∀ Q : Option Value → mSt → Prop, (∀ (s : mSt), (XQ s A (adv ok q) ∧ F1 st s) → Q (none) s) → mW (mMC mT (d + 0)) (0, fun _ => 0) (mAtL P_X7_takeWord) none Q 0 [some (.ref 1), some (.int x)] [] st by
    obtain ⟨_, _, ⟨s, rfl, rfl, hp⟩, hw⟩ := mW_ex (H (fun vv tt => ∃ (s : mSt),  vv = none ∧ s = tt ∧ XQ s A (adv ok q) ∧ F1 st s) (fun s hp => ⟨s, rfl, rfl, hp⟩))
    exact ⟨s, mI_X7_takeWord (d := d + 0) (Nat.le_of_ble_eq_true rfl) hw, hp⟩
  intro Q hq
  subst hx
  refine w_blk 1 (pc' := 1) (ls' := [some (.ref 1), some (.int (pI (ok = true)))]) (sk' := [.int (pI (ok = true))]) (st' := st) (fun _ h => h) ?_
  refine w_if_eq rfl (fun h1 => ?_) (fun h1 => ?_)
  · replace h1 := pI_eq0.mp h1
    refine w_blk 2 (pc' := 19) (ls' := [some (.ref 1), some (.int (pI (ok = true)))]) (sk' := [.int 1, .ref 1]) (st' := st) (fun _ h => h) ?_
    refine w_putZ rfl rfl rfl (Or.inr rfl) ?_
    rw [adv_no hf (Bool.eq_false_iff.mpr h1)] at hq
    exact w_vret rfl rfl (hq _ ⟨XQ_no hQ, F1.w F1.rf (by decide)⟩)
  · replace h1 := pI_ne.mp h1
    refine w_blk 3 (pc' := 9) (ls' := [some (.ref 1), some (.int (pI (ok = true)))]) (sk' := [.int (st.1 1 4), .ref 1]) (st' := st) (fun _ h => h) ?_
    rw [hQ.1]
    refine w_blk 2 (pc' := 11) (ls' := [some (.ref 1), some (.int (pI (ok = true)))]) (sk' := [.int ((nI q.1) + 1), .ref 1]) (st' := st) (fun _ h => h) ?_
    rw [show ((nI q.1) + 1) = nI (q.1 + 1) from nI_add q.1 1]
    refine w_blk 2 (pc' := 22) (ls' := [some (.ref 1), some (.int (pI (ok = true)))]) (sk' := []) (st' := ((mU st.1 1 4 (nI (q.1 + 1))), st.2)) (fun _ h => h) ?_
    rw [adv_go hf h1] at hq
    exact w_vret rfl rfl (hq _ ⟨XQ_go hQ hf hA, F1.w F1.rf (by decide)⟩)
set_option maxRecDepth 20000 in
/-- takes(wanted) -/
theorem c_takes (d : Nat) (T : Nat → Nat) (A : Nat) (q : Nat × Bool) (k : Nat) (st : mSt) (hQ : XQ st A q) (hT : XTo st T A) (hk : k ≠ 100) (hk3 : k ≤ 107) : ∃ (s : mSt), mMC mT (d + 2) 69 [.ref 1, .int (nI k)] st (some (.int (pI (q.2 = false ∧ T q.1 = k)))) s ∧ XQ s A (opt (decide (T q.1 = k)) q) ∧ F1 st s := by
  suffices H : ∀ Q : Option Value → mSt → Prop, (∀ (s : mSt), (XQ s A (opt (decide (T q.1 = k)) q) ∧ F1 st s) → Q (some (.int (pI (q.2 = false ∧ T q.1 = k)))) s) → mW (mMC mT (d + 1)) (0, fun _ => 0) (mAtL P_X7_takes) (some .boolean) Q 0 [some (.ref 1), some (.int (nI k))] [] st by
    obtain ⟨_, _, ⟨s, rfl, rfl, hp⟩, hw⟩ := mW_ex (H (fun vv tt => ∃ (s : mSt),  vv = some (.int (pI (q.2 = false ∧ T q.1 = k))) ∧ s = tt ∧ XQ s A (opt (decide (T q.1 = k)) q) ∧ F1 st s) (fun s hp => ⟨s, rfl, rfl, hp⟩))
    exact ⟨s, mI_X7_takes (d := d + 1) (Nat.le_of_ble_eq_true rfl) hw, hp⟩
  intro Q hq
  have hQk := XQ_tok hQ hT
  have hT7 := hT.2.2.1 q.1
  have hA3 := hT.1
  have hqA := hQ.2.2
  by_cases hf2 : q.2 = true
  · have hF : st.1 1 5 = 1 := hQ.2.1.trans (pI_t hf2)
    rw [show pI (q.2 = false ∧ T q.1 = k) = 0 from pI_f (fun e => absurd e.1 (by rw [hf2]; decide)), opt_st hf2] at hq
    refine w_blk 2 (pc' := 4) (ls' := [some (.ref 1), some (.int (nI k))]) (sk' := [.int (st.1 1 5)]) (st' := st) (fun _ h => h) ?_
    rw [hF]
    refine w_if_ne rfl (fun _ => ?_) (fun hno => absurd (by decide) hno)
    refine w_blk 1 (pc' := 23) (ls' := [some (.ref 1), some (.int (nI k))]) (sk' := [.int 0]) (st' := st) (fun _ h => h) ?_
    exact w_iret rfl rfl rfl (hq st ⟨hQ, F1.rf⟩)
  · have hff : q.2 = false := Bool.eq_false_iff.mpr hf2
    have hF : st.1 1 5 = 0 := hQ.2.1.trans (pI_f hf2)
    refine w_blk 2 (pc' := 4) (ls' := [some (.ref 1), some (.int (nI k))]) (sk' := [.int (st.1 1 5)]) (st' := st) (fun _ h => h) ?_
    rw [hF]
    refine w_if_ne rfl (fun hno => absurd hno (fun h => h rfl)) (fun _ => ?_)
    refine w_blk 4 (pc' := 15) (ls' := [some (.ref 1), some (.int (nI k))]) (sk' := [.int (st.1 1 4), .ref 3]) (st' := st) (fun _ h => h) ?_
    rw [hQ.1]
    refine w_callS (As := [.ref 3, .int (nI q.1)]) (rest := []) rfl rfl rfl (Nat.le_of_ble_eq_true rfl) (Nat.le_of_ble_eq_true rfl) (c_cellK (d + 0) 3 301 q.1 st (by omega) (by decide) rfl) ?_
    rw [hQk]
    refine w_blk 1 (pc' := 19) (ls' := [some (.ref 1), some (.int (nI k))]) (sk' := [.int (nI k), .int (nI (T q.1))]) (st' := st) (fun _ h => h) ?_
    refine w_cmp_eq rfl (fun h1 => ?_) (fun h1 => ?_)
    · replace h1 : T q.1 = k := (nI_eq (a := (T q.1)) (b := k) (by omega) (by omega)).mp h1
      refine w_blk 3 (pc' := 29) (ls' := [some (.ref 1), some (.int (nI k))]) (sk' := [.int (st.1 1 4), .ref 1]) (st' := st) (fun _ h => h) ?_
      rw [hQ.1]
      refine w_blk 2 (pc' := 31) (ls' := [some (.ref 1), some (.int (nI k))]) (sk' := [.int ((nI q.1) + 1), .ref 1]) (st' := st) (fun _ h => h) ?_
      rw [show ((nI q.1) + 1) = nI (q.1 + 1) from nI_add q.1 1]
      refine w_blk 2 (pc' := 35) (ls' := [some (.ref 1), some (.int (nI k))]) (sk' := [.int 1]) (st' := ((mU st.1 1 4 (nI (q.1 + 1))), st.2)) (fun _ h => h) ?_
      rw [show pI (q.2 = false ∧ T q.1 = k) = 1 from pI_t ⟨hff, h1⟩, opt_go hff (decide_eq_true h1), hff] at hq
      exact w_iret rfl rfl rfl (hq _ ⟨XQ_go hQ hff (XQ_ne hQ hT (by rw [h1]; exact hk)), F1.w F1.rf (by decide)⟩)
    · replace h1 : ¬ (T q.1 = k) := fun hh => h1 ((nI_eq (a := (T q.1)) (b := k) (by omega) (by omega)).mpr hh)
      refine w_blk 1 (pc' := 23) (ls' := [some (.ref 1), some (.int (nI k))]) (sk' := [.int 0]) (st' := st) (fun _ h => h) ?_
      rw [show pI (q.2 = false ∧ T q.1 = k) = 0 from pI_f (fun e => h1 e.2), opt_no (decide_eq_false h1)] at hq
      exact w_iret rfl rfl rfl (hq st ⟨hQ, F1.rf⟩)
set_option maxRecDepth 20000 in
/-- takeNumber(9) -/
theorem c_takeN9 (d : Nat) (T : Nat → Nat) (A : Nat) (q : Nat × Bool) (st : mSt) (hQ : XQ st A q) (hT : XTo st T A) : ∃ (s : mSt), mMC mT (d + 3) 67 [.ref 1, .int 9] st (some (.int (nI (T q.1)))) s ∧ XQ s A (adv (nmb T 9 q) q) ∧ F1 st s := by
  suffices H : ∀ Q : Option Value → mSt → Prop, (∀ (s : mSt), (XQ s A (adv (nmb T 9 q) q) ∧ F1 st s) → Q (some (.int (nI (T q.1)))) s) → mW (mMC mT (d + 2)) (0, fun _ => 0) (mAtL P_X7_takeNumber) (some .int) Q 0 [some (.ref 1), some (.int 9), none] [] st by
    obtain ⟨_, _, ⟨s, rfl, rfl, hp⟩, hw⟩ := mW_ex (H (fun vv tt => ∃ (s : mSt),  vv = some (.int (nI (T q.1))) ∧ s = tt ∧ XQ s A (adv (nmb T 9 q) q) ∧ F1 st s) (fun s hp => ⟨s, rfl, rfl, hp⟩))
    exact ⟨s, mI_X7_takeNumber (d := d + 2) (Nat.le_of_ble_eq_true rfl) hw, hp⟩
  intro Q hq
  have hQk := XQ_tok hQ hT
  have hT7 := hT.2.2.1 q.1
  have hA3 := hT.1
  have hqA := hQ.2.2
  have hnn := fun h => nmb_t (T := T) (m := 9) (p := q) rfl h
  have hnf := fun h => nmb_f (T := T) (m := 9) (p := q) rfl h
  refine w_blk 4 (pc' := 8) (ls' := [some (.ref 1), some (.int 9), none]) (sk' := [.int (st.1 1 4), .ref 3]) (st' := st) (fun _ h => h) ?_
  rw [hQ.1]
  refine w_callS (As := [.ref 3, .int (nI q.1)]) (rest := []) rfl rfl rfl (Nat.le_of_ble_eq_true rfl) (Nat.le_of_ble_eq_true rfl) (c_cellK (d + 1) 3 301 q.1 st (by omega) (by decide) rfl) ?_
  rw [hQk]
  refine w_blk 4 (pc' := 15) (ls' := [some (.ref 1), some (.int 9), some (.int (nI (T q.1)))]) (sk' := [.int 9, .int 1, .int (nI (T q.1))]) (st' := st) (fun _ h => h) ?_
  refine w_callS (As := [.int (nI (T q.1)), .int 1, .int 9]) (rest := []) rfl rfl rfl (Nat.le_of_ble_eq_true rfl) (Nat.le_of_ble_eq_true rfl) (c_within (d + 1) (nI (T q.1)) 1 9 st) ?_
  rw [show (pI (1 ≤ (nI (T q.1)) ∧ (nI (T q.1)) ≤ 9)) = pI (1 ≤ T q.1 ∧ T q.1 ≤ 9) from pI_cong (inI (a := 1) (z := 9) (by omega) (by decide) (by decide))]
  refine w_if_eq rfl (fun h1 => ?_) (fun h1 => ?_)
  · replace h1 := pI_eq0.mp h1
    have hn := hnf h1
    have hres : adv (nmb T 9 q) q = (q.1, true) := by
      rcases hq2 : q.2 with _ | _
      · exact adv_no hq2 hn
      · exact (adv_st hq2).trans (Prod.ext rfl hq2)
    rw [hres] at hq
    refine w_blk 2 (pc' := 31) (ls' := [some (.ref 1), some (.int 9), some (.int (nI (T q.1)))]) (sk' := [.int 1, .ref 1]) (st' := st) (fun _ h => h) ?_
    refine w_putZ rfl rfl rfl (Or.inr rfl) ?_
    refine w_blk 1 (pc' := 35) (ls' := [some (.ref 1), some (.int 9), some (.int (nI (T q.1)))]) (sk' := [.int (nI (T q.1))]) (st' := ((mU st.1 1 5 1), st.2)) (fun _ h => h) ?_
    exact w_iret rfl rfl rfl (hq _ ⟨XQ_no hQ, F1.w F1.rf (by decide)⟩)
  · replace h1 := pI_ne.mp h1
    have hn := hnn h1
    obtain ⟨s1, hc, hQ1, hf1⟩ := c_takes (d + 0) T A q (T q.1) st hQ hT (by omega) hT7
    refine w_blk 2 (pc' := 23) (ls' := [some (.ref 1), some (.int 9), some (.int (nI (T q.1)))]) (sk' := [.int (nI (T q.1)), .ref 1]) (st' := st) (fun _ h => h) ?_
    refine w_callV (As := [.ref 1, .int (nI (T q.1))]) (rest := []) rfl rfl rfl (Nat.le_of_ble_eq_true rfl) (Nat.le_of_ble_eq_true rfl) (by first | exact Or.inl ⟨rfl, rfl⟩ | exact Or.inr ⟨rfl, rfl⟩) hc ?_
    refine w_if_ne rfl (fun h2 => ?_) (fun h2 => ?_)
    · replace h2 := pI_ne.mp h2
      refine w_blk 1 (pc' := 35) (ls' := [some (.ref 1), some (.int 9), some (.int (nI (T q.1)))]) (sk' := [.int (nI (T q.1))]) (st' := s1) (fun _ h => h) ?_
      rw [opt_go h2.1 (decide_eq_true rfl), h2.1] at hQ1
      rw [adv_go h2.1 hn] at hq
      exact w_iret rfl rfl rfl (hq s1 ⟨hQ1, hf1⟩)
    · replace h2 := pI_eq0.mp (Decidable.not_not.mp h2)
      refine w_blk 2 (pc' := 31) (ls' := [some (.ref 1), some (.int 9), some (.int (nI (T q.1)))]) (sk' := [.int 1, .ref 1]) (st' := s1) (fun _ h => h) ?_
      refine w_putZ rfl rfl rfl (Or.inr rfl) ?_
      refine w_blk 1 (pc' := 35) (ls' := [some (.ref 1), some (.int 9), some (.int (nI (T q.1)))]) (sk' := [.int (nI (T q.1))]) (st' := ((mU s1.1 1 5 1), s1.2)) (fun _ h => h) ?_
      have hf2 : q.2 = true := by
        rcases hq2 : q.2 with _ | _
        · exact absurd ⟨hq2, rfl⟩ h2
        · rfl
      rw [opt_st hf2] at hQ1
      rw [show adv (nmb T 9 q) q = (q.1, true) from (adv_st hf2).trans (Prod.ext rfl hf2)] at hq
      exact w_iret rfl rfl rfl (hq _ ⟨XQ_no hQ1, F1.w hf1 (by decide)⟩)
set_option maxRecDepth 20000 in
/-- takeNumber(99) -/
theorem c_takeN99 (d : Nat) (T : Nat → Nat) (A : Nat) (q : Nat × Bool) (st : mSt) (hQ : XQ st A q) (hT : XTo st T A) : ∃ (s : mSt), mMC mT (d + 3) 67 [.ref 1, .int 99] st (some (.int (nI (T q.1)))) s ∧ XQ s A (adv (nmb T 99 q) q) ∧ F1 st s := by
  suffices H : ∀ Q : Option Value → mSt → Prop, (∀ (s : mSt), (XQ s A (adv (nmb T 99 q) q) ∧ F1 st s) → Q (some (.int (nI (T q.1)))) s) → mW (mMC mT (d + 2)) (0, fun _ => 0) (mAtL P_X7_takeNumber) (some .int) Q 0 [some (.ref 1), some (.int 99), none] [] st by
    obtain ⟨_, _, ⟨s, rfl, rfl, hp⟩, hw⟩ := mW_ex (H (fun vv tt => ∃ (s : mSt),  vv = some (.int (nI (T q.1))) ∧ s = tt ∧ XQ s A (adv (nmb T 99 q) q) ∧ F1 st s) (fun s hp => ⟨s, rfl, rfl, hp⟩))
    exact ⟨s, mI_X7_takeNumber (d := d + 2) (Nat.le_of_ble_eq_true rfl) hw, hp⟩
  intro Q hq
  have hQk := XQ_tok hQ hT
  have hT7 := hT.2.2.1 q.1
  have hA3 := hT.1
  have hqA := hQ.2.2
  have hnn := fun h => nmb_t (T := T) (m := 99) (p := q) rfl h
  have hnf := fun h => nmb_f (T := T) (m := 99) (p := q) rfl h
  refine w_blk 4 (pc' := 8) (ls' := [some (.ref 1), some (.int 99), none]) (sk' := [.int (st.1 1 4), .ref 3]) (st' := st) (fun _ h => h) ?_
  rw [hQ.1]
  refine w_callS (As := [.ref 3, .int (nI q.1)]) (rest := []) rfl rfl rfl (Nat.le_of_ble_eq_true rfl) (Nat.le_of_ble_eq_true rfl) (c_cellK (d + 1) 3 301 q.1 st (by omega) (by decide) rfl) ?_
  rw [hQk]
  refine w_blk 4 (pc' := 15) (ls' := [some (.ref 1), some (.int 99), some (.int (nI (T q.1)))]) (sk' := [.int 99, .int 1, .int (nI (T q.1))]) (st' := st) (fun _ h => h) ?_
  refine w_callS (As := [.int (nI (T q.1)), .int 1, .int 99]) (rest := []) rfl rfl rfl (Nat.le_of_ble_eq_true rfl) (Nat.le_of_ble_eq_true rfl) (c_within (d + 1) (nI (T q.1)) 1 99 st) ?_
  rw [show (pI (1 ≤ (nI (T q.1)) ∧ (nI (T q.1)) ≤ 99)) = pI (1 ≤ T q.1 ∧ T q.1 ≤ 99) from pI_cong (inI (a := 1) (z := 99) (by omega) (by decide) (by decide))]
  refine w_if_eq rfl (fun h1 => ?_) (fun h1 => ?_)
  · replace h1 := pI_eq0.mp h1
    have hn := hnf h1
    have hres : adv (nmb T 99 q) q = (q.1, true) := by
      rcases hq2 : q.2 with _ | _
      · exact adv_no hq2 hn
      · exact (adv_st hq2).trans (Prod.ext rfl hq2)
    rw [hres] at hq
    refine w_blk 2 (pc' := 31) (ls' := [some (.ref 1), some (.int 99), some (.int (nI (T q.1)))]) (sk' := [.int 1, .ref 1]) (st' := st) (fun _ h => h) ?_
    refine w_putZ rfl rfl rfl (Or.inr rfl) ?_
    refine w_blk 1 (pc' := 35) (ls' := [some (.ref 1), some (.int 99), some (.int (nI (T q.1)))]) (sk' := [.int (nI (T q.1))]) (st' := ((mU st.1 1 5 1), st.2)) (fun _ h => h) ?_
    exact w_iret rfl rfl rfl (hq _ ⟨XQ_no hQ, F1.w F1.rf (by decide)⟩)
  · replace h1 := pI_ne.mp h1
    have hn := hnn h1
    obtain ⟨s1, hc, hQ1, hf1⟩ := c_takes (d + 0) T A q (T q.1) st hQ hT (by omega) hT7
    refine w_blk 2 (pc' := 23) (ls' := [some (.ref 1), some (.int 99), some (.int (nI (T q.1)))]) (sk' := [.int (nI (T q.1)), .ref 1]) (st' := st) (fun _ h => h) ?_
    refine w_callV (As := [.ref 1, .int (nI (T q.1))]) (rest := []) rfl rfl rfl (Nat.le_of_ble_eq_true rfl) (Nat.le_of_ble_eq_true rfl) (by first | exact Or.inl ⟨rfl, rfl⟩ | exact Or.inr ⟨rfl, rfl⟩) hc ?_
    refine w_if_ne rfl (fun h2 => ?_) (fun h2 => ?_)
    · replace h2 := pI_ne.mp h2
      refine w_blk 1 (pc' := 35) (ls' := [some (.ref 1), some (.int 99), some (.int (nI (T q.1)))]) (sk' := [.int (nI (T q.1))]) (st' := s1) (fun _ h => h) ?_
      rw [opt_go h2.1 (decide_eq_true rfl), h2.1] at hQ1
      rw [adv_go h2.1 hn] at hq
      exact w_iret rfl rfl rfl (hq s1 ⟨hQ1, hf1⟩)
    · replace h2 := pI_eq0.mp (Decidable.not_not.mp h2)
      refine w_blk 2 (pc' := 31) (ls' := [some (.ref 1), some (.int 99), some (.int (nI (T q.1)))]) (sk' := [.int 1, .ref 1]) (st' := s1) (fun _ h => h) ?_
      refine w_putZ rfl rfl rfl (Or.inr rfl) ?_
      refine w_blk 1 (pc' := 35) (ls' := [some (.ref 1), some (.int 99), some (.int (nI (T q.1)))]) (sk' := [.int (nI (T q.1))]) (st' := ((mU s1.1 1 5 1), s1.2)) (fun _ h => h) ?_
      have hf2 : q.2 = true := by
        rcases hq2 : q.2 with _ | _
        · exact absurd ⟨hq2, rfl⟩ h2
        · rfl
      rw [opt_st hf2] at hQ1
      rw [show adv (nmb T 99 q) q = (q.1, true) from (adv_st hf2).trans (Prod.ext rfl hf2)] at hq
      exact w_iret rfl rfl rfl (hq _ ⟨XQ_no hQ1, F1.w hf1 (by decide)⟩)
set_option maxRecDepth 20000 in
/-- takeSemicolon() -/
theorem c_takeS (d : Nat) (T : Nat → Nat) (A : Nat) (q : Nat × Bool) (st : mSt) (hQ : XQ st A q) (hT : XTo st T A) : ∃ (s : mSt), mMC mT (d + 3) 68 [.ref 1] st (none) s ∧ XQ s A (adv (decide (T q.1 = 102)) q) ∧ F1 st s := by
  suffices H : ∀ Q : Option Value → mSt → Prop, (∀ (s : mSt), (XQ s A (adv (decide (T q.1 = 102)) q) ∧ F1 st s) → Q (none) s) → mW (mMC mT (d + 2)) (0, fun _ => 0) (mAtL P_X7_takeSemicolon) none Q 0 [some (.ref 1)] [] st by
    obtain ⟨_, _, ⟨s, rfl, rfl, hp⟩, hw⟩ := mW_ex (H (fun vv tt => ∃ (s : mSt),  vv = none ∧ s = tt ∧ XQ s A (adv (decide (T q.1 = 102)) q) ∧ F1 st s) (fun s hp => ⟨s, rfl, rfl, hp⟩))
    exact ⟨s, mI_X7_takeSemicolon (d := d + 2) (Nat.le_of_ble_eq_true rfl) hw, hp⟩
  intro Q hq
  refine w_blk 2 (pc' := 3) (ls' := [some (.ref 1)]) (sk' := [.int 102, .ref 1]) (st' := st) (fun _ h => h) ?_
  obtain ⟨s1, hc, hQ1, hf1⟩ := c_takes (d + 0) T A q 102 st hQ hT (by decide) (by decide)
  refine w_callV (As := [.ref 1, .int 102]) (rest := []) rfl rfl rfl (Nat.le_of_ble_eq_true rfl) (Nat.le_of_ble_eq_true rfl) (by first | exact Or.inl ⟨rfl, rfl⟩ | exact Or.inr ⟨rfl, rfl⟩) hc ?_
  refine w_if_ne rfl (fun h2 => ?_) (fun h2 => ?_)
  · replace h2 := pI_ne.mp h2
    rw [opt_go h2.1 (decide_eq_true h2.2), h2.1] at hQ1
    rw [adv_go h2.1 (decide_eq_true h2.2)] at hq
    exact w_vret rfl rfl (hq s1 ⟨hQ1, hf1⟩)
  · replace h2 := pI_eq0.mp (Decidable.not_not.mp h2)
    refine w_blk 2 (pc' := 11) (ls' := [some (.ref 1)]) (sk' := [.int 1, .ref 1]) (st' := s1) (fun _ h => h) ?_
    refine w_putZ rfl rfl rfl (Or.inr rfl) ?_
    have hres : adv (decide (T q.1 = 102)) q = (q.1, true) := by
      rcases hq2 : q.2 with _ | _
      · exact adv_no hq2 (decide_eq_false (fun e => h2 ⟨hq2, e⟩))
      · exact (adv_st hq2).trans (Prod.ext rfl hq2)
    have hres2 : opt (decide (T q.1 = 102)) q = q := by
      rcases hq2 : q.2 with _ | _
      · exact opt_no (decide_eq_false (fun e => h2 ⟨hq2, e⟩))
      · exact opt_st hq2
    rw [hres] at hq
    rw [hres2] at hQ1
    exact w_vret rfl rfl (hq _ ⟨XQ_no hQ1, F1.w hf1 (by decide)⟩)
set_option maxRecDepth 20000 in
/-- addDigger -/
theorem c_addD_5 (d : Nat) (n : Nat → Nat) (c : Nat → Nat → Nat) (x y z : Nat) (st : mSt) (hX : X5 st n c) (hn : n 0 < 6) (hz : z ≤ 1) : ∃ (s : mSt), mMC mT (d + 2) 23 [.ref 5, .int (nI x), .int (nI y), .int (nI z)] st (none) s ∧ X5 s (updN n 0 (n 0 + 1)) (upd2 (upd2 (upd2 c 0 (n 0) x) 1 (n 0) y) 2 (n 0) z) ∧ Fr [5, 6, 7, 8] st s ∧ s.2 = st.2 := by
  suffices H : ∀ Q : Option Value → mSt → Prop, (∀ (s : mSt), (X5 s (updN n 0 (n 0 + 1)) (upd2 (upd2 (upd2 c 0 (n 0) x) 1 (n 0) y) 2 (n 0) z) ∧ Fr [5, 6, 7, 8] st s ∧ s.2 = st.2) → Q (none) s) → mW (mMC mT (d + 1)) (0, fun _ => 0) (mAtL P_X1_addDigger) none Q 0 [some (.ref 5), some (.int (nI x)), some (.int (nI y)), some (.int (nI z))] [] st by
    obtain ⟨_, _, ⟨s, rfl, rfl, hp⟩, hw⟩ := mW_ex (H (fun vv tt => ∃ (s : mSt),  vv = none ∧ s = tt ∧ X5 s (updN n 0 (n 0 + 1)) (upd2 (upd2 (upd2 c 0 (n 0) x) 1 (n 0) y) 2 (n 0) z) ∧ Fr [5, 6, 7, 8] st s ∧ s.2 = st.2) (fun s hp => ⟨s, rfl, rfl, hp⟩))
    exact ⟨s, mI_X1_addDigger (d := d + 1) (Nat.le_of_ble_eq_true rfl) hw, hp⟩
  intro Q hq
  refine w_blk 4 (pc' := 8) (ls' := [some (.ref 5), some (.int (nI x)), some (.int (nI y)), some (.int (nI z))]) (sk' := [.int (st.1 5 0), .ref 6]) (st' := st) (fun _ h => h) ?_
  rw [hX.1]
  refine w_blk 1 (pc' := 9) (ls' := [some (.ref 5), some (.int (nI x)), some (.int (nI y)), some (.int (nI z))]) (sk' := [.int (nI x), .int (nI (n 0)), .ref 6]) (st' := st) (fun _ h => h) ?_
  refine w_callS (As := [.ref 6, .int (nI (n 0)), .int (nI x)]) (rest := []) rfl rfl rfl (Nat.le_of_ble_eq_true rfl) (Nat.le_of_ble_eq_true rfl) (c_putK (d + 0) 6 6 (n 0) (nI x) st (by omega) (by decide) rfl) ?_
  refine w_blk 4 (pc' := 20) (ls' := [some (.ref 5), some (.int (nI x)), some (.int (nI y)), some (.int (nI z))]) (sk' := [.int (st.1 5 0), .ref 7]) (st' := ((mU st.1 6 (n 0) (nI x)), st.2)) (fun _ h => h) ?_
  rw [hX.1]
  refine w_blk 1 (pc' := 21) (ls' := [some (.ref 5), some (.int (nI x)), some (.int (nI y)), some (.int (nI z))]) (sk' := [.int (nI y), .int (nI (n 0)), .ref 7]) (st' := ((mU st.1 6 (n 0) (nI x)), st.2)) (fun _ h => h) ?_
  refine w_callS (As := [.ref 7, .int (nI (n 0)), .int (nI y)]) (rest := []) rfl rfl rfl (Nat.le_of_ble_eq_true rfl) (Nat.le_of_ble_eq_true rfl) (c_putK (d + 0) 7 6 (n 0) (nI y) ((mU st.1 6 (n 0) (nI x)), st.2) (by omega) (by decide) rfl) ?_
  refine w_blk 4 (pc' := 32) (ls' := [some (.ref 5), some (.int (nI x)), some (.int (nI y)), some (.int (nI z))]) (sk' := [.int (st.1 5 0), .ref 8]) (st' := ((mU (mU st.1 6 (n 0) (nI x)) 7 (n 0) (nI y)), st.2)) (fun _ h => h) ?_
  rw [hX.1]
  refine w_blk 1 (pc' := 33) (ls' := [some (.ref 5), some (.int (nI x)), some (.int (nI y)), some (.int (nI z))]) (sk' := [.int (nI z), .int (nI (n 0)), .ref 8]) (st' := ((mU (mU st.1 6 (n 0) (nI x)) 7 (n 0) (nI y)), st.2)) (fun _ h => h) ?_
  have hca := c_asNumber (d + 0) (nI z) ((mU (mU st.1 6 (n 0) (nI x)) 7 (n 0) (nI y)), st.2)
  rw [show (if nI z = 0 then (0 : Int32) else 1) = nI z from by rcases (show z = 0 ∨ z = 1 by omega) with e | e <;> rw [e] <;> rfl] at hca
  refine w_callS (As := [.int (nI z)]) (rest := [.int (nI (n 0)), .ref 8]) rfl rfl rfl (Nat.le_of_ble_eq_true rfl) (Nat.le_of_ble_eq_true rfl) hca ?_
  refine w_callS (As := [.ref 8, .int (nI (n 0)), .int (nI z)]) (rest := []) rfl rfl rfl (Nat.le_of_ble_eq_true rfl) (Nat.le_of_ble_eq_true rfl) (c_putK (d + 0) 8 6 (n 0) (nI z) ((mU (mU st.1 6 (n 0) (nI x)) 7 (n 0) (nI y)), st.2) (by omega) (by decide) rfl) ?_
  refine w_blk 3 (pc' := 44) (ls' := [some (.ref 5), some (.int (nI x)), some (.int (nI y)), some (.int (nI z))]) (sk' := [.int (st.1 5 0), .ref 5]) (st' := ((mU (mU (mU st.1 6 (n 0) (nI x)) 7 (n 0) (nI y)) 8 (n 0) (nI z)), st.2)) (fun _ h => h) ?_
  rw [hX.1]
  refine w_blk 2 (pc' := 46) (ls' := [some (.ref 5), some (.int (nI x)), some (.int (nI y)), some (.int (nI z))]) (sk' := [.int ((nI (n 0)) + 1), .ref 5]) (st' := ((mU (mU (mU st.1 6 (n 0) (nI x)) 7 (n 0) (nI y)) 8 (n 0) (nI z)), st.2)) (fun _ h => h) ?_
  rw [show ((nI (n 0)) + 1) = nI ((n 0) + 1) from nI_add (n 0) 1]
  refine w_blk 1 (pc' := 49) (ls' := [some (.ref 5), some (.int (nI x)), some (.int (nI y)), some (.int (nI z))]) (sk' := []) (st' := ((mU (mU (mU (mU st.1 6 (n 0) (nI x)) 7 (n 0) (nI y)) 8 (n 0) (nI z)) 5 0 (nI ((n 0) + 1))), st.2)) (fun _ h => h) ?_
  have hfr : Fr [5, 6, 7, 8] st ((mU (mU (mU (mU st.1 6 (n 0) (nI x)) 7 (n 0) (nI y)) 8 (n 0) (nI z)) 5 0 (nI ((n 0) + 1))), st.2) := Fr.trans (Fr.trans (Fr.trans (Fr.mU (by decide)) (Fr.mU (by decide))) (Fr.mU (by decide))) (Fr.mU (by decide))
  have e0 : ((mU (mU (mU (mU st.1 6 (n 0) (nI x)) 7 (n 0) (nI y)) 8 (n 0) (nI z)) 5 0 (nI ((n 0) + 1))), st.2).1 6 = upd (st.1 6) (n 0) (nI x) := rfl
  have e1 : ((mU (mU (mU (mU st.1 6 (n 0) (nI x)) 7 (n 0) (nI y)) 8 (n 0) (nI z)) 5 0 (nI ((n 0) + 1))), st.2).1 7 = upd (st.1 7) (n 0) (nI y) := rfl
  have e2 : ((mU (mU (mU (mU st.1 6 (n 0) (nI x)) 7 (n 0) (nI y)) 8 (n 0) (nI z)) 5 0 (nI ((n 0) + 1))), st.2).1 8 = upd (st.1 8) (n 0) (nI z) := rfl
  have eo : ∀ p, p ∈ [9, 10, 11, 12] → ((mU (mU (mU (mU st.1 6 (n 0) (nI x)) 7 (n 0) (nI y)) 8 (n 0) (nI z)) 5 0 (nI ((n 0) + 1))), st.2).1 p = st.1 p := fun p hp => hfr.1 p ((show ∀ z, z ∈ [9, 10, 11, 12] → z ∉ [5, 6, 7, 8] by decide) p hp)
  have x9 := hX
  obtain ⟨x0, x1, x2, x3, x4, x5⟩ := x9
  refine w_vret rfl rfl (hq _ ⟨?_, hfr, rfl⟩)
  unfold X5
  rw [e0, e1, e2, eo 9 (by decide), eo 10 (by decide), eo 11 (by decide), eo 12 (by decide)]
  refine ⟨rfl, x1, x2, fun d hd => ?_, fun k hk => ?_, fun k hk => ?_⟩
  · have hd2 : d < n 0 + 1 := hd
    by_cases e2 : d = n 0
    · rw [e2]
      exact ⟨up0.trans (congrArg nI ((up2_row (by decide)).trans ((up2_row (by decide)).trans up2_at)).symm), up0.trans (congrArg nI ((up2_row (by decide)).trans up2_at).symm), up0.trans (congrArg nI up2_at.symm)⟩
    · have r := x3 d (by omega)
      have ec : ∀ i, upd2 (upd2 (upd2 c 0 (n 0) x) 1 (n 0) y) 2 (n 0) z i d = c i d := fun i => (up2_col e2).trans ((up2_col e2).trans (up2_col e2))
      rw [ec, ec, ec]
      exact ⟨(up1 e2).trans r.1, (up1 e2).trans r.2.1, (up1 e2).trans r.2.2⟩
  · have r := x4 k hk
    rw [show upd2 (upd2 (upd2 c 0 (n 0) x) 1 (n 0) y) 2 (n 0) z 3 k = c 3 k from (up2_row (by decide)).trans ((up2_row (by decide)).trans (up2_row (by decide))), show upd2 (upd2 (upd2 c 0 (n 0) x) 1 (n 0) y) 2 (n 0) z 4 k = c 4 k from (up2_row (by decide)).trans ((up2_row (by decide)).trans (up2_row (by decide)))]
    exact r
  · have r := x5 k hk
    rw [show upd2 (upd2 (upd2 c 0 (n 0) x) 1 (n 0) y) 2 (n 0) z 5 k = c 5 k from (up2_row (by decide)).trans ((up2_row (by decide)).trans (up2_row (by decide))), show upd2 (upd2 (upd2 c 0 (n 0) x) 1 (n 0) y) 2 (n 0) z 6 k = c 6 k from (up2_row (by decide)).trans ((up2_row (by decide)).trans (up2_row (by decide)))]
    exact r
set_option maxRecDepth 20000 in
/-- addSpade -/
theorem c_addS_5 (d : Nat) (n : Nat → Nat) (c : Nat → Nat → Nat) (x y : Nat) (st : mSt) (hX : X5 st n c) (hn : n 1 < 8) : ∃ (s : mSt), mMC mT (d + 2) 24 [.ref 5, .int (nI x), .int (nI y)] st (none) s ∧ X5 s (updN n 1 (n 1 + 1)) (upd2 (upd2 c 3 (n 1) x) 4 (n 1) y) ∧ Fr [5, 9, 10] st s ∧ s.2 = st.2 := by
  suffices H : ∀ Q : Option Value → mSt → Prop, (∀ (s : mSt), (X5 s (updN n 1 (n 1 + 1)) (upd2 (upd2 c 3 (n 1) x) 4 (n 1) y) ∧ Fr [5, 9, 10] st s ∧ s.2 = st.2) → Q (none) s) → mW (mMC mT (d + 1)) (0, fun _ => 0) (mAtL P_X1_addSpade) none Q 0 [some (.ref 5), some (.int (nI x)), some (.int (nI y))] [] st by
    obtain ⟨_, _, ⟨s, rfl, rfl, hp⟩, hw⟩ := mW_ex (H (fun vv tt => ∃ (s : mSt),  vv = none ∧ s = tt ∧ X5 s (updN n 1 (n 1 + 1)) (upd2 (upd2 c 3 (n 1) x) 4 (n 1) y) ∧ Fr [5, 9, 10] st s ∧ s.2 = st.2) (fun s hp => ⟨s, rfl, rfl, hp⟩))
    exact ⟨s, mI_X1_addSpade (d := d + 1) (Nat.le_of_ble_eq_true rfl) hw, hp⟩
  intro Q hq
  refine w_blk 4 (pc' := 8) (ls' := [some (.ref 5), some (.int (nI x)), some (.int (nI y))]) (sk' := [.int (st.1 5 1), .ref 9]) (st' := st) (fun _ h => h) ?_
  rw [hX.2.1]
  refine w_blk 1 (pc' := 9) (ls' := [some (.ref 5), some (.int (nI x)), some (.int (nI y))]) (sk' := [.int (nI x), .int (nI (n 1)), .ref 9]) (st' := st) (fun _ h => h) ?_
  refine w_callS (As := [.ref 9, .int (nI (n 1)), .int (nI x)]) (rest := []) rfl rfl rfl (Nat.le_of_ble_eq_true rfl) (Nat.le_of_ble_eq_true rfl) (c_putK (d + 0) 9 8 (n 1) (nI x) st (by omega) (by decide) rfl) ?_
  refine w_blk 4 (pc' := 20) (ls' := [some (.ref 5), some (.int (nI x)), some (.int (nI y))]) (sk' := [.int (st.1 5 1), .ref 10]) (st' := ((mU st.1 9 (n 1) (nI x)), st.2)) (fun _ h => h) ?_
  rw [hX.2.1]
  refine w_blk 1 (pc' := 21) (ls' := [some (.ref 5), some (.int (nI x)), some (.int (nI y))]) (sk' := [.int (nI y), .int (nI (n 1)), .ref 10]) (st' := ((mU st.1 9 (n 1) (nI x)), st.2)) (fun _ h => h) ?_
  refine w_callS (As := [.ref 10, .int (nI (n 1)), .int (nI y)]) (rest := []) rfl rfl rfl (Nat.le_of_ble_eq_true rfl) (Nat.le_of_ble_eq_true rfl) (c_putK (d + 0) 10 8 (n 1) (nI y) ((mU st.1 9 (n 1) (nI x)), st.2) (by omega) (by decide) rfl) ?_
  refine w_blk 3 (pc' := 29) (ls' := [some (.ref 5), some (.int (nI x)), some (.int (nI y))]) (sk' := [.int (st.1 5 1), .ref 5]) (st' := ((mU (mU st.1 9 (n 1) (nI x)) 10 (n 1) (nI y)), st.2)) (fun _ h => h) ?_
  rw [hX.2.1]
  refine w_blk 2 (pc' := 31) (ls' := [some (.ref 5), some (.int (nI x)), some (.int (nI y))]) (sk' := [.int ((nI (n 1)) + 1), .ref 5]) (st' := ((mU (mU st.1 9 (n 1) (nI x)) 10 (n 1) (nI y)), st.2)) (fun _ h => h) ?_
  rw [show ((nI (n 1)) + 1) = nI ((n 1) + 1) from nI_add (n 1) 1]
  refine w_blk 1 (pc' := 34) (ls' := [some (.ref 5), some (.int (nI x)), some (.int (nI y))]) (sk' := []) (st' := ((mU (mU (mU st.1 9 (n 1) (nI x)) 10 (n 1) (nI y)) 5 1 (nI ((n 1) + 1))), st.2)) (fun _ h => h) ?_
  have hfr : Fr [5, 9, 10] st ((mU (mU (mU st.1 9 (n 1) (nI x)) 10 (n 1) (nI y)) 5 1 (nI ((n 1) + 1))), st.2) := Fr.trans (Fr.trans (Fr.mU (by decide)) (Fr.mU (by decide))) (Fr.mU (by decide))
  have e0 : ((mU (mU (mU st.1 9 (n 1) (nI x)) 10 (n 1) (nI y)) 5 1 (nI ((n 1) + 1))), st.2).1 9 = upd (st.1 9) (n 1) (nI x) := rfl
  have e1 : ((mU (mU (mU st.1 9 (n 1) (nI x)) 10 (n 1) (nI y)) 5 1 (nI ((n 1) + 1))), st.2).1 10 = upd (st.1 10) (n 1) (nI y) := rfl
  have eo : ∀ p, p ∈ [6, 7, 8, 11, 12] → ((mU (mU (mU st.1 9 (n 1) (nI x)) 10 (n 1) (nI y)) 5 1 (nI ((n 1) + 1))), st.2).1 p = st.1 p := fun p hp => hfr.1 p ((show ∀ z, z ∈ [6, 7, 8, 11, 12] → z ∉ [5, 9, 10] by decide) p hp)
  have x9 := hX
  obtain ⟨x0, x1, x2, x3, x4, x5⟩ := x9
  refine w_vret rfl rfl (hq _ ⟨?_, hfr, rfl⟩)
  unfold X5
  rw [e0, e1, eo 6 (by decide), eo 7 (by decide), eo 8 (by decide), eo 11 (by decide), eo 12 (by decide)]
  refine ⟨x0, rfl, x2, fun d hd => ?_, fun k hk => ?_, fun k hk => ?_⟩
  · have r := x3 d hd
    have ec : ∀ i, i < 3 → upd2 (upd2 c 3 (n 1) x) 4 (n 1) y i d = c i d := fun i hi => (up2_row (by omega)).trans (up2_row (by omega))
    rw [ec 0 (by decide), ec 1 (by decide), ec 2 (by decide)]
    exact r
  · have hd2 : k < n 1 + 1 := hk
    by_cases e2 : k = n 1
    · rw [e2]
      exact ⟨up0.trans (congrArg nI ((up2_row (by decide)).trans up2_at).symm), up0.trans (congrArg nI up2_at.symm)⟩
    · have r := x4 k (by omega)
      have ec : ∀ i, upd2 (upd2 c 3 (n 1) x) 4 (n 1) y i k = c i k := fun i => (up2_col e2).trans (up2_col e2)
      rw [ec, ec]
      exact ⟨(up1 e2).trans r.1, (up1 e2).trans r.2⟩
  · have r := x5 k hk
    have ec : ∀ i, 5 ≤ i → upd2 (upd2 c 3 (n 1) x) 4 (n 1) y i k = c i k := fun i hi => (up2_row (by omega)).trans (up2_row (by omega))
    rw [ec 5 (by decide), ec 6 (by decide)]
    exact r
set_option maxRecDepth 20000 in
/-- addYard -/
theorem c_addY_5 (d : Nat) (n : Nat → Nat) (c : Nat → Nat → Nat) (x y : Nat) (st : mSt) (hX : X5 st n c) (hn : n 2 < 8) : ∃ (s : mSt), mMC mT (d + 2) 25 [.ref 5, .int (nI x), .int (nI y)] st (none) s ∧ X5 s (updN n 2 (n 2 + 1)) (upd2 (upd2 c 5 (n 2) x) 6 (n 2) y) ∧ Fr [5, 11, 12] st s ∧ s.2 = st.2 := by
  suffices H : ∀ Q : Option Value → mSt → Prop, (∀ (s : mSt), (X5 s (updN n 2 (n 2 + 1)) (upd2 (upd2 c 5 (n 2) x) 6 (n 2) y) ∧ Fr [5, 11, 12] st s ∧ s.2 = st.2) → Q (none) s) → mW (mMC mT (d + 1)) (0, fun _ => 0) (mAtL P_X1_addYard) none Q 0 [some (.ref 5), some (.int (nI x)), some (.int (nI y))] [] st by
    obtain ⟨_, _, ⟨s, rfl, rfl, hp⟩, hw⟩ := mW_ex (H (fun vv tt => ∃ (s : mSt),  vv = none ∧ s = tt ∧ X5 s (updN n 2 (n 2 + 1)) (upd2 (upd2 c 5 (n 2) x) 6 (n 2) y) ∧ Fr [5, 11, 12] st s ∧ s.2 = st.2) (fun s hp => ⟨s, rfl, rfl, hp⟩))
    exact ⟨s, mI_X1_addYard (d := d + 1) (Nat.le_of_ble_eq_true rfl) hw, hp⟩
  intro Q hq
  refine w_blk 4 (pc' := 8) (ls' := [some (.ref 5), some (.int (nI x)), some (.int (nI y))]) (sk' := [.int (st.1 5 2), .ref 11]) (st' := st) (fun _ h => h) ?_
  rw [hX.2.2.1]
  refine w_blk 1 (pc' := 9) (ls' := [some (.ref 5), some (.int (nI x)), some (.int (nI y))]) (sk' := [.int (nI x), .int (nI (n 2)), .ref 11]) (st' := st) (fun _ h => h) ?_
  refine w_callS (As := [.ref 11, .int (nI (n 2)), .int (nI x)]) (rest := []) rfl rfl rfl (Nat.le_of_ble_eq_true rfl) (Nat.le_of_ble_eq_true rfl) (c_putK (d + 0) 11 8 (n 2) (nI x) st (by omega) (by decide) rfl) ?_
  refine w_blk 4 (pc' := 20) (ls' := [some (.ref 5), some (.int (nI x)), some (.int (nI y))]) (sk' := [.int (st.1 5 2), .ref 12]) (st' := ((mU st.1 11 (n 2) (nI x)), st.2)) (fun _ h => h) ?_
  rw [hX.2.2.1]
  refine w_blk 1 (pc' := 21) (ls' := [some (.ref 5), some (.int (nI x)), some (.int (nI y))]) (sk' := [.int (nI y), .int (nI (n 2)), .ref 12]) (st' := ((mU st.1 11 (n 2) (nI x)), st.2)) (fun _ h => h) ?_
  refine w_callS (As := [.ref 12, .int (nI (n 2)), .int (nI y)]) (rest := []) rfl rfl rfl (Nat.le_of_ble_eq_true rfl) (Nat.le_of_ble_eq_true rfl) (c_putK (d + 0) 12 8 (n 2) (nI y) ((mU st.1 11 (n 2) (nI x)), st.2) (by omega) (by decide) rfl) ?_
  refine w_blk 3 (pc' := 29) (ls' := [some (.ref 5), some (.int (nI x)), some (.int (nI y))]) (sk' := [.int (st.1 5 2), .ref 5]) (st' := ((mU (mU st.1 11 (n 2) (nI x)) 12 (n 2) (nI y)), st.2)) (fun _ h => h) ?_
  rw [hX.2.2.1]
  refine w_blk 2 (pc' := 31) (ls' := [some (.ref 5), some (.int (nI x)), some (.int (nI y))]) (sk' := [.int ((nI (n 2)) + 1), .ref 5]) (st' := ((mU (mU st.1 11 (n 2) (nI x)) 12 (n 2) (nI y)), st.2)) (fun _ h => h) ?_
  rw [show ((nI (n 2)) + 1) = nI ((n 2) + 1) from nI_add (n 2) 1]
  refine w_blk 1 (pc' := 34) (ls' := [some (.ref 5), some (.int (nI x)), some (.int (nI y))]) (sk' := []) (st' := ((mU (mU (mU st.1 11 (n 2) (nI x)) 12 (n 2) (nI y)) 5 2 (nI ((n 2) + 1))), st.2)) (fun _ h => h) ?_
  have hfr : Fr [5, 11, 12] st ((mU (mU (mU st.1 11 (n 2) (nI x)) 12 (n 2) (nI y)) 5 2 (nI ((n 2) + 1))), st.2) := Fr.trans (Fr.trans (Fr.mU (by decide)) (Fr.mU (by decide))) (Fr.mU (by decide))
  have e0 : ((mU (mU (mU st.1 11 (n 2) (nI x)) 12 (n 2) (nI y)) 5 2 (nI ((n 2) + 1))), st.2).1 11 = upd (st.1 11) (n 2) (nI x) := rfl
  have e1 : ((mU (mU (mU st.1 11 (n 2) (nI x)) 12 (n 2) (nI y)) 5 2 (nI ((n 2) + 1))), st.2).1 12 = upd (st.1 12) (n 2) (nI y) := rfl
  have eo : ∀ p, p ∈ [6, 7, 8, 9, 10] → ((mU (mU (mU st.1 11 (n 2) (nI x)) 12 (n 2) (nI y)) 5 2 (nI ((n 2) + 1))), st.2).1 p = st.1 p := fun p hp => hfr.1 p ((show ∀ z, z ∈ [6, 7, 8, 9, 10] → z ∉ [5, 11, 12] by decide) p hp)
  have x9 := hX
  obtain ⟨x0, x1, x2, x3, x4, x5⟩ := x9
  refine w_vret rfl rfl (hq _ ⟨?_, hfr, rfl⟩)
  unfold X5
  rw [e0, e1, eo 6 (by decide), eo 7 (by decide), eo 8 (by decide), eo 9 (by decide), eo 10 (by decide)]
  refine ⟨x0, x1, rfl, fun d hd => ?_, fun k hk => ?_, fun k hk => ?_⟩
  · have r := x3 d hd
    have ec : ∀ i, i < 5 → upd2 (upd2 c 5 (n 2) x) 6 (n 2) y i d = c i d := fun i hi => (up2_row (by omega)).trans (up2_row (by omega))
    rw [ec 0 (by decide), ec 1 (by decide), ec 2 (by decide)]
    exact r
  · have r := x4 k hk
    have ec : ∀ i, i < 5 → upd2 (upd2 c 5 (n 2) x) 6 (n 2) y i k = c i k := fun i hi => (up2_row (by omega)).trans (up2_row (by omega))
    rw [ec 3 (by decide), ec 4 (by decide)]
    exact r
  · have hd2 : k < n 2 + 1 := hk
    by_cases e2 : k = n 2
    · rw [e2]
      exact ⟨up0.trans (congrArg nI ((up2_row (by decide)).trans up2_at).symm), up0.trans (congrArg nI up2_at.symm)⟩
    · have r := x5 k (by omega)
      have ec : ∀ i, upd2 (upd2 c 5 (n 2) x) 6 (n 2) y i k = c i k := fun i => (up2_col e2).trans (up2_col e2)
      rw [ec, ec]
      exact ⟨(up1 e2).trans r.1, (up1 e2).trans r.2⟩
set_option maxRecDepth 20000 in
/-- addDigger -/
theorem c_addD_13 (d : Nat) (n : Nat → Nat) (c : Nat → Nat → Nat) (x y z : Nat) (st : mSt) (hX : X13 st n c) (hn : n 0 < 6) (hz : z ≤ 1) : ∃ (s : mSt), mMC mT (d + 2) 23 [.ref 13, .int (nI x), .int (nI y), .int (nI z)] st (none) s ∧ X13 s (updN n 0 (n 0 + 1)) (upd2 (upd2 (upd2 c 0 (n 0) x) 1 (n 0) y) 2 (n 0) z) ∧ Fr [13, 14, 15, 16] st s ∧ s.2 = st.2 := by
  suffices H : ∀ Q : Option Value → mSt → Prop, (∀ (s : mSt), (X13 s (updN n 0 (n 0 + 1)) (upd2 (upd2 (upd2 c 0 (n 0) x) 1 (n 0) y) 2 (n 0) z) ∧ Fr [13, 14, 15, 16] st s ∧ s.2 = st.2) → Q (none) s) → mW (mMC mT (d + 1)) (0, fun _ => 0) (mAtL P_X1_addDigger) none Q 0 [some (.ref 13), some (.int (nI x)), some (.int (nI y)), some (.int (nI z))] [] st by
    obtain ⟨_, _, ⟨s, rfl, rfl, hp⟩, hw⟩ := mW_ex (H (fun vv tt => ∃ (s : mSt),  vv = none ∧ s = tt ∧ X13 s (updN n 0 (n 0 + 1)) (upd2 (upd2 (upd2 c 0 (n 0) x) 1 (n 0) y) 2 (n 0) z) ∧ Fr [13, 14, 15, 16] st s ∧ s.2 = st.2) (fun s hp => ⟨s, rfl, rfl, hp⟩))
    exact ⟨s, mI_X1_addDigger (d := d + 1) (Nat.le_of_ble_eq_true rfl) hw, hp⟩
  intro Q hq
  refine w_blk 4 (pc' := 8) (ls' := [some (.ref 13), some (.int (nI x)), some (.int (nI y)), some (.int (nI z))]) (sk' := [.int (st.1 13 0), .ref 14]) (st' := st) (fun _ h => h) ?_
  rw [hX.1]
  refine w_blk 1 (pc' := 9) (ls' := [some (.ref 13), some (.int (nI x)), some (.int (nI y)), some (.int (nI z))]) (sk' := [.int (nI x), .int (nI (n 0)), .ref 14]) (st' := st) (fun _ h => h) ?_
  refine w_callS (As := [.ref 14, .int (nI (n 0)), .int (nI x)]) (rest := []) rfl rfl rfl (Nat.le_of_ble_eq_true rfl) (Nat.le_of_ble_eq_true rfl) (c_putK (d + 0) 14 6 (n 0) (nI x) st (by omega) (by decide) rfl) ?_
  refine w_blk 4 (pc' := 20) (ls' := [some (.ref 13), some (.int (nI x)), some (.int (nI y)), some (.int (nI z))]) (sk' := [.int (st.1 13 0), .ref 15]) (st' := ((mU st.1 14 (n 0) (nI x)), st.2)) (fun _ h => h) ?_
  rw [hX.1]
  refine w_blk 1 (pc' := 21) (ls' := [some (.ref 13), some (.int (nI x)), some (.int (nI y)), some (.int (nI z))]) (sk' := [.int (nI y), .int (nI (n 0)), .ref 15]) (st' := ((mU st.1 14 (n 0) (nI x)), st.2)) (fun _ h => h) ?_
  refine w_callS (As := [.ref 15, .int (nI (n 0)), .int (nI y)]) (rest := []) rfl rfl rfl (Nat.le_of_ble_eq_true rfl) (Nat.le_of_ble_eq_true rfl) (c_putK (d + 0) 15 6 (n 0) (nI y) ((mU st.1 14 (n 0) (nI x)), st.2) (by omega) (by decide) rfl) ?_
  refine w_blk 4 (pc' := 32) (ls' := [some (.ref 13), some (.int (nI x)), some (.int (nI y)), some (.int (nI z))]) (sk' := [.int (st.1 13 0), .ref 16]) (st' := ((mU (mU st.1 14 (n 0) (nI x)) 15 (n 0) (nI y)), st.2)) (fun _ h => h) ?_
  rw [hX.1]
  refine w_blk 1 (pc' := 33) (ls' := [some (.ref 13), some (.int (nI x)), some (.int (nI y)), some (.int (nI z))]) (sk' := [.int (nI z), .int (nI (n 0)), .ref 16]) (st' := ((mU (mU st.1 14 (n 0) (nI x)) 15 (n 0) (nI y)), st.2)) (fun _ h => h) ?_
  have hca := c_asNumber (d + 0) (nI z) ((mU (mU st.1 14 (n 0) (nI x)) 15 (n 0) (nI y)), st.2)
  rw [show (if nI z = 0 then (0 : Int32) else 1) = nI z from by rcases (show z = 0 ∨ z = 1 by omega) with e | e <;> rw [e] <;> rfl] at hca
  refine w_callS (As := [.int (nI z)]) (rest := [.int (nI (n 0)), .ref 16]) rfl rfl rfl (Nat.le_of_ble_eq_true rfl) (Nat.le_of_ble_eq_true rfl) hca ?_
  refine w_callS (As := [.ref 16, .int (nI (n 0)), .int (nI z)]) (rest := []) rfl rfl rfl (Nat.le_of_ble_eq_true rfl) (Nat.le_of_ble_eq_true rfl) (c_putK (d + 0) 16 6 (n 0) (nI z) ((mU (mU st.1 14 (n 0) (nI x)) 15 (n 0) (nI y)), st.2) (by omega) (by decide) rfl) ?_
  refine w_blk 3 (pc' := 44) (ls' := [some (.ref 13), some (.int (nI x)), some (.int (nI y)), some (.int (nI z))]) (sk' := [.int (st.1 13 0), .ref 13]) (st' := ((mU (mU (mU st.1 14 (n 0) (nI x)) 15 (n 0) (nI y)) 16 (n 0) (nI z)), st.2)) (fun _ h => h) ?_
  rw [hX.1]
  refine w_blk 2 (pc' := 46) (ls' := [some (.ref 13), some (.int (nI x)), some (.int (nI y)), some (.int (nI z))]) (sk' := [.int ((nI (n 0)) + 1), .ref 13]) (st' := ((mU (mU (mU st.1 14 (n 0) (nI x)) 15 (n 0) (nI y)) 16 (n 0) (nI z)), st.2)) (fun _ h => h) ?_
  rw [show ((nI (n 0)) + 1) = nI ((n 0) + 1) from nI_add (n 0) 1]
  refine w_blk 1 (pc' := 49) (ls' := [some (.ref 13), some (.int (nI x)), some (.int (nI y)), some (.int (nI z))]) (sk' := []) (st' := ((mU (mU (mU (mU st.1 14 (n 0) (nI x)) 15 (n 0) (nI y)) 16 (n 0) (nI z)) 13 0 (nI ((n 0) + 1))), st.2)) (fun _ h => h) ?_
  have hfr : Fr [13, 14, 15, 16] st ((mU (mU (mU (mU st.1 14 (n 0) (nI x)) 15 (n 0) (nI y)) 16 (n 0) (nI z)) 13 0 (nI ((n 0) + 1))), st.2) := Fr.trans (Fr.trans (Fr.trans (Fr.mU (by decide)) (Fr.mU (by decide))) (Fr.mU (by decide))) (Fr.mU (by decide))
  have e0 : ((mU (mU (mU (mU st.1 14 (n 0) (nI x)) 15 (n 0) (nI y)) 16 (n 0) (nI z)) 13 0 (nI ((n 0) + 1))), st.2).1 14 = upd (st.1 14) (n 0) (nI x) := rfl
  have e1 : ((mU (mU (mU (mU st.1 14 (n 0) (nI x)) 15 (n 0) (nI y)) 16 (n 0) (nI z)) 13 0 (nI ((n 0) + 1))), st.2).1 15 = upd (st.1 15) (n 0) (nI y) := rfl
  have e2 : ((mU (mU (mU (mU st.1 14 (n 0) (nI x)) 15 (n 0) (nI y)) 16 (n 0) (nI z)) 13 0 (nI ((n 0) + 1))), st.2).1 16 = upd (st.1 16) (n 0) (nI z) := rfl
  have eo : ∀ p, p ∈ [17, 18, 19, 20] → ((mU (mU (mU (mU st.1 14 (n 0) (nI x)) 15 (n 0) (nI y)) 16 (n 0) (nI z)) 13 0 (nI ((n 0) + 1))), st.2).1 p = st.1 p := fun p hp => hfr.1 p ((show ∀ z, z ∈ [17, 18, 19, 20] → z ∉ [13, 14, 15, 16] by decide) p hp)
  have x9 := hX
  obtain ⟨x0, x1, x2, x3, x4, x5⟩ := x9
  refine w_vret rfl rfl (hq _ ⟨?_, hfr, rfl⟩)
  unfold X13
  rw [e0, e1, e2, eo 17 (by decide), eo 18 (by decide), eo 19 (by decide), eo 20 (by decide)]
  refine ⟨rfl, x1, x2, fun d hd => ?_, fun k hk => ?_, fun k hk => ?_⟩
  · have hd2 : d < n 0 + 1 := hd
    by_cases e2 : d = n 0
    · rw [e2]
      exact ⟨up0.trans (congrArg nI ((up2_row (by decide)).trans ((up2_row (by decide)).trans up2_at)).symm), up0.trans (congrArg nI ((up2_row (by decide)).trans up2_at).symm), up0.trans (congrArg nI up2_at.symm)⟩
    · have r := x3 d (by omega)
      have ec : ∀ i, upd2 (upd2 (upd2 c 0 (n 0) x) 1 (n 0) y) 2 (n 0) z i d = c i d := fun i => (up2_col e2).trans ((up2_col e2).trans (up2_col e2))
      rw [ec, ec, ec]
      exact ⟨(up1 e2).trans r.1, (up1 e2).trans r.2.1, (up1 e2).trans r.2.2⟩
  · have r := x4 k hk
    rw [show upd2 (upd2 (upd2 c 0 (n 0) x) 1 (n 0) y) 2 (n 0) z 3 k = c 3 k from (up2_row (by decide)).trans ((up2_row (by decide)).trans (up2_row (by decide))), show upd2 (upd2 (upd2 c 0 (n 0) x) 1 (n 0) y) 2 (n 0) z 4 k = c 4 k from (up2_row (by decide)).trans ((up2_row (by decide)).trans (up2_row (by decide)))]
    exact r
  · have r := x5 k hk
    rw [show upd2 (upd2 (upd2 c 0 (n 0) x) 1 (n 0) y) 2 (n 0) z 5 k = c 5 k from (up2_row (by decide)).trans ((up2_row (by decide)).trans (up2_row (by decide))), show upd2 (upd2 (upd2 c 0 (n 0) x) 1 (n 0) y) 2 (n 0) z 6 k = c 6 k from (up2_row (by decide)).trans ((up2_row (by decide)).trans (up2_row (by decide)))]
    exact r
set_option maxRecDepth 20000 in
/-- addSpade -/
theorem c_addS_13 (d : Nat) (n : Nat → Nat) (c : Nat → Nat → Nat) (x y : Nat) (st : mSt) (hX : X13 st n c) (hn : n 1 < 8) : ∃ (s : mSt), mMC mT (d + 2) 24 [.ref 13, .int (nI x), .int (nI y)] st (none) s ∧ X13 s (updN n 1 (n 1 + 1)) (upd2 (upd2 c 3 (n 1) x) 4 (n 1) y) ∧ Fr [13, 17, 18] st s ∧ s.2 = st.2 := by
  suffices H : ∀ Q : Option Value → mSt → Prop, (∀ (s : mSt), (X13 s (updN n 1 (n 1 + 1)) (upd2 (upd2 c 3 (n 1) x) 4 (n 1) y) ∧ Fr [13, 17, 18] st s ∧ s.2 = st.2) → Q (none) s) → mW (mMC mT (d + 1)) (0, fun _ => 0) (mAtL P_X1_addSpade) none Q 0 [some (.ref 13), some (.int (nI x)), some (.int (nI y))] [] st by
    obtain ⟨_, _, ⟨s, rfl, rfl, hp⟩, hw⟩ := mW_ex (H (fun vv tt => ∃ (s : mSt),  vv = none ∧ s = tt ∧ X13 s (updN n 1 (n 1 + 1)) (upd2 (upd2 c 3 (n 1) x) 4 (n 1) y) ∧ Fr [13, 17, 18] st s ∧ s.2 = st.2) (fun s hp => ⟨s, rfl, rfl, hp⟩))
    exact ⟨s, mI_X1_addSpade (d := d + 1) (Nat.le_of_ble_eq_true rfl) hw, hp⟩
  intro Q hq
  refine w_blk 4 (pc' := 8) (ls' := [some (.ref 13), some (.int (nI x)), some (.int (nI y))]) (sk' := [.int (st.1 13 1), .ref 17]) (st' := st) (fun _ h => h) ?_
  rw [hX.2.1]
  refine w_blk 1 (pc' := 9) (ls' := [some (.ref 13), some (.int (nI x)), some (.int (nI y))]) (sk' := [.int (nI x), .int (nI (n 1)), .ref 17]) (st' := st) (fun _ h => h) ?_
  refine w_callS (As := [.ref 17, .int (nI (n 1)), .int (nI x)]) (rest := []) rfl rfl rfl (Nat.le_of_ble_eq_true rfl) (Nat.le_of_ble_eq_true rfl) (c_putK (d + 0) 17 8 (n 1) (nI x) st (by omega) (by decide) rfl) ?_
  refine w_blk 4 (pc' := 20) (ls' := [some (.ref 13), some (.int (nI x)), some (.int (nI y))]) (sk' := [.int (st.1 13 1), .ref 18]) (st' := ((mU st.1 17 (n 1) (nI x)), st.2)) (fun _ h => h) ?_
  rw [hX.2.1]
  refine w_blk 1 (pc' := 21) (ls' := [some (.ref 13), some (.int (nI x)), some (.int (nI y))]) (sk' := [.int (nI y), .int (nI (n 1)), .ref 18]) (st' := ((mU st.1 17 (n 1) (nI x)), st.2)) (fun _ h => h) ?_
  refine w_callS (As := [.ref 18, .int (nI (n 1)), .int (nI y)]) (rest := []) rfl rfl rfl (Nat.le_of_ble_eq_true rfl) (Nat.le_of_ble_eq_true rfl) (c_putK (d + 0) 18 8 (n 1) (nI y) ((mU st.1 17 (n 1) (nI x)), st.2) (by omega) (by decide) rfl) ?_
  refine w_blk 3 (pc' := 29) (ls' := [some (.ref 13), some (.int (nI x)), some (.int (nI y))]) (sk' := [.int (st.1 13 1), .ref 13]) (st' := ((mU (mU st.1 17 (n 1) (nI x)) 18 (n 1) (nI y)), st.2)) (fun _ h => h) ?_
  rw [hX.2.1]
  refine w_blk 2 (pc' := 31) (ls' := [some (.ref 13), some (.int (nI x)), some (.int (nI y))]) (sk' := [.int ((nI (n 1)) + 1), .ref 13]) (st' := ((mU (mU st.1 17 (n 1) (nI x)) 18 (n 1) (nI y)), st.2)) (fun _ h => h) ?_
  rw [show ((nI (n 1)) + 1) = nI ((n 1) + 1) from nI_add (n 1) 1]
  refine w_blk 1 (pc' := 34) (ls' := [some (.ref 13), some (.int (nI x)), some (.int (nI y))]) (sk' := []) (st' := ((mU (mU (mU st.1 17 (n 1) (nI x)) 18 (n 1) (nI y)) 13 1 (nI ((n 1) + 1))), st.2)) (fun _ h => h) ?_
  have hfr : Fr [13, 17, 18] st ((mU (mU (mU st.1 17 (n 1) (nI x)) 18 (n 1) (nI y)) 13 1 (nI ((n 1) + 1))), st.2) := Fr.trans (Fr.trans (Fr.mU (by decide)) (Fr.mU (by decide))) (Fr.mU (by decide))
  have e0 : ((mU (mU (mU st.1 17 (n 1) (nI x)) 18 (n 1) (nI y)) 13 1 (nI ((n 1) + 1))), st.2).1 17 = upd (st.1 17) (n 1) (nI x) := rfl
  have e1 : ((mU (mU (mU st.1 17 (n 1) (nI x)) 18 (n 1) (nI y)) 13 1 (nI ((n 1) + 1))), st.2).1 18 = upd (st.1 18) (n 1) (nI y) := rfl
  have eo : ∀ p, p ∈ [14, 15, 16, 19, 20] → ((mU (mU (mU st.1 17 (n 1) (nI x)) 18 (n 1) (nI y)) 13 1 (nI ((n 1) + 1))), st.2).1 p = st.1 p := fun p hp => hfr.1 p ((show ∀ z, z ∈ [14, 15, 16, 19, 20] → z ∉ [13, 17, 18] by decide) p hp)
  have x9 := hX
  obtain ⟨x0, x1, x2, x3, x4, x5⟩ := x9
  refine w_vret rfl rfl (hq _ ⟨?_, hfr, rfl⟩)
  unfold X13
  rw [e0, e1, eo 14 (by decide), eo 15 (by decide), eo 16 (by decide), eo 19 (by decide), eo 20 (by decide)]
  refine ⟨x0, rfl, x2, fun d hd => ?_, fun k hk => ?_, fun k hk => ?_⟩
  · have r := x3 d hd
    have ec : ∀ i, i < 3 → upd2 (upd2 c 3 (n 1) x) 4 (n 1) y i d = c i d := fun i hi => (up2_row (by omega)).trans (up2_row (by omega))
    rw [ec 0 (by decide), ec 1 (by decide), ec 2 (by decide)]
    exact r
  · have hd2 : k < n 1 + 1 := hk
    by_cases e2 : k = n 1
    · rw [e2]
      exact ⟨up0.trans (congrArg nI ((up2_row (by decide)).trans up2_at).symm), up0.trans (congrArg nI up2_at.symm)⟩
    · have r := x4 k (by omega)
      have ec : ∀ i, upd2 (upd2 c 3 (n 1) x) 4 (n 1) y i k = c i k := fun i => (up2_col e2).trans (up2_col e2)
      rw [ec, ec]
      exact ⟨(up1 e2).trans r.1, (up1 e2).trans r.2⟩
  · have r := x5 k hk
    have ec : ∀ i, 5 ≤ i → upd2 (upd2 c 3 (n 1) x) 4 (n 1) y i k = c i k := fun i hi => (up2_row (by omega)).trans (up2_row (by omega))
    rw [ec 5 (by decide), ec 6 (by decide)]
    exact r
set_option maxRecDepth 20000 in
/-- addYard -/
theorem c_addY_13 (d : Nat) (n : Nat → Nat) (c : Nat → Nat → Nat) (x y : Nat) (st : mSt) (hX : X13 st n c) (hn : n 2 < 8) : ∃ (s : mSt), mMC mT (d + 2) 25 [.ref 13, .int (nI x), .int (nI y)] st (none) s ∧ X13 s (updN n 2 (n 2 + 1)) (upd2 (upd2 c 5 (n 2) x) 6 (n 2) y) ∧ Fr [13, 19, 20] st s ∧ s.2 = st.2 := by
  suffices H : ∀ Q : Option Value → mSt → Prop, (∀ (s : mSt), (X13 s (updN n 2 (n 2 + 1)) (upd2 (upd2 c 5 (n 2) x) 6 (n 2) y) ∧ Fr [13, 19, 20] st s ∧ s.2 = st.2) → Q (none) s) → mW (mMC mT (d + 1)) (0, fun _ => 0) (mAtL P_X1_addYard) none Q 0 [some (.ref 13), some (.int (nI x)), some (.int (nI y))] [] st by
    obtain ⟨_, _, ⟨s, rfl, rfl, hp⟩, hw⟩ := mW_ex (H (fun vv tt => ∃ (s : mSt),  vv = none ∧ s = tt ∧ X13 s (updN n 2 (n 2 + 1)) (upd2 (upd2 c 5 (n 2) x) 6 (n 2) y) ∧ Fr [13, 19, 20] st s ∧ s.2 = st.2) (fun s hp => ⟨s, rfl, rfl, hp⟩))
    exact ⟨s, mI_X1_addYard (d := d + 1) (Nat.le_of_ble_eq_true rfl) hw, hp⟩
  intro Q hq
  refine w_blk 4 (pc' := 8) (ls' := [some (.ref 13), some (.int (nI x)), some (.int (nI y))]) (sk' := [.int (st.1 13 2), .ref 19]) (st' := st) (fun _ h => h) ?_
  rw [hX.2.2.1]
  refine w_blk 1 (pc' := 9) (ls' := [some (.ref 13), some (.int (nI x)), some (.int (nI y))]) (sk' := [.int (nI x), .int (nI (n 2)), .ref 19]) (st' := st) (fun _ h => h) ?_
  refine w_callS (As := [.ref 19, .int (nI (n 2)), .int (nI x)]) (rest := []) rfl rfl rfl (Nat.le_of_ble_eq_true rfl) (Nat.le_of_ble_eq_true rfl) (c_putK (d + 0) 19 8 (n 2) (nI x) st (by omega) (by decide) rfl) ?_
  refine w_blk 4 (pc' := 20) (ls' := [some (.ref 13), some (.int (nI x)), some (.int (nI y))]) (sk' := [.int (st.1 13 2), .ref 20]) (st' := ((mU st.1 19 (n 2) (nI x)), st.2)) (fun _ h => h) ?_
  rw [hX.2.2.1]
  refine w_blk 1 (pc' := 21) (ls' := [some (.ref 13), some (.int (nI x)), some (.int (nI y))]) (sk' := [.int (nI y), .int (nI (n 2)), .ref 20]) (st' := ((mU st.1 19 (n 2) (nI x)), st.2)) (fun _ h => h) ?_
  refine w_callS (As := [.ref 20, .int (nI (n 2)), .int (nI y)]) (rest := []) rfl rfl rfl (Nat.le_of_ble_eq_true rfl) (Nat.le_of_ble_eq_true rfl) (c_putK (d + 0) 20 8 (n 2) (nI y) ((mU st.1 19 (n 2) (nI x)), st.2) (by omega) (by decide) rfl) ?_
  refine w_blk 3 (pc' := 29) (ls' := [some (.ref 13), some (.int (nI x)), some (.int (nI y))]) (sk' := [.int (st.1 13 2), .ref 13]) (st' := ((mU (mU st.1 19 (n 2) (nI x)) 20 (n 2) (nI y)), st.2)) (fun _ h => h) ?_
  rw [hX.2.2.1]
  refine w_blk 2 (pc' := 31) (ls' := [some (.ref 13), some (.int (nI x)), some (.int (nI y))]) (sk' := [.int ((nI (n 2)) + 1), .ref 13]) (st' := ((mU (mU st.1 19 (n 2) (nI x)) 20 (n 2) (nI y)), st.2)) (fun _ h => h) ?_
  rw [show ((nI (n 2)) + 1) = nI ((n 2) + 1) from nI_add (n 2) 1]
  refine w_blk 1 (pc' := 34) (ls' := [some (.ref 13), some (.int (nI x)), some (.int (nI y))]) (sk' := []) (st' := ((mU (mU (mU st.1 19 (n 2) (nI x)) 20 (n 2) (nI y)) 13 2 (nI ((n 2) + 1))), st.2)) (fun _ h => h) ?_
  have hfr : Fr [13, 19, 20] st ((mU (mU (mU st.1 19 (n 2) (nI x)) 20 (n 2) (nI y)) 13 2 (nI ((n 2) + 1))), st.2) := Fr.trans (Fr.trans (Fr.mU (by decide)) (Fr.mU (by decide))) (Fr.mU (by decide))
  have e0 : ((mU (mU (mU st.1 19 (n 2) (nI x)) 20 (n 2) (nI y)) 13 2 (nI ((n 2) + 1))), st.2).1 19 = upd (st.1 19) (n 2) (nI x) := rfl
  have e1 : ((mU (mU (mU st.1 19 (n 2) (nI x)) 20 (n 2) (nI y)) 13 2 (nI ((n 2) + 1))), st.2).1 20 = upd (st.1 20) (n 2) (nI y) := rfl
  have eo : ∀ p, p ∈ [14, 15, 16, 17, 18] → ((mU (mU (mU st.1 19 (n 2) (nI x)) 20 (n 2) (nI y)) 13 2 (nI ((n 2) + 1))), st.2).1 p = st.1 p := fun p hp => hfr.1 p ((show ∀ z, z ∈ [14, 15, 16, 17, 18] → z ∉ [13, 19, 20] by decide) p hp)
  have x9 := hX
  obtain ⟨x0, x1, x2, x3, x4, x5⟩ := x9
  refine w_vret rfl rfl (hq _ ⟨?_, hfr, rfl⟩)
  unfold X13
  rw [e0, e1, eo 14 (by decide), eo 15 (by decide), eo 16 (by decide), eo 17 (by decide), eo 18 (by decide)]
  refine ⟨x0, x1, rfl, fun d hd => ?_, fun k hk => ?_, fun k hk => ?_⟩
  · have r := x3 d hd
    have ec : ∀ i, i < 5 → upd2 (upd2 c 5 (n 2) x) 6 (n 2) y i d = c i d := fun i hi => (up2_row (by omega)).trans (up2_row (by omega))
    rw [ec 0 (by decide), ec 1 (by decide), ec 2 (by decide)]
    exact r
  · have r := x4 k hk
    have ec : ∀ i, i < 5 → upd2 (upd2 c 5 (n 2) x) 6 (n 2) y i k = c i k := fun i hi => (up2_row (by omega)).trans (up2_row (by omega))
    rw [ec 3 (by decide), ec 4 (by decide)]
    exact r
  · have hd2 : k < n 2 + 1 := hk
    by_cases e2 : k = n 2
    · rw [e2]
      exact ⟨up0.trans (congrArg nI ((up2_row (by decide)).trans up2_at).symm), up0.trans (congrArg nI up2_at.symm)⟩
    · have r := x5 k (by omega)
      have ec : ∀ i, upd2 (upd2 c 5 (n 2) x) 6 (n 2) y i k = c i k := fun i => (up2_col e2).trans (up2_col e2)
      rw [ec, ec]
      exact ⟨(up1 e2).trans r.1, (up1 e2).trans r.2⟩
