/-! THE TEXT, read by the model: items -/
def MQu (st : mSt) (b : Nat → Nat) (L : Nat) (q : Nat × Bool) : Prop := MK st b L (ps b L q.1) ∧ st.1 53 17 = (if q.2 = true then nI (ps b L q.1) else -9)
theorem MQu_e {st s : mSt} {b : Nat → Nat} {L : Nat} {q : Nat × Bool} (e : s.1 53 = st.1 53) (h : MQu st b L q) : MQu s b L q := by
  unfold MQu MK at h ⊢
  rw [e]
  exact h
theorem nI9 {x : Nat} (h : x < 2 ^ 31) : ¬ nI x = -9 := fun e => by
  have := nI_pos' h
  rw [e] at this
  exact absurd this (by decide)
theorem adv_go {ok : Bool} {p : Nat × Bool} (h1 : p.2 = false) (h2 : ok = true) : adv ok p = (p.1 + 1, false) := (if_neg (by rw [h1]; decide)).trans (if_pos h2)
theorem adv_no {ok : Bool} {p : Nat × Bool} (h1 : p.2 = false) (h2 : ok = false) : adv ok p = (p.1, true) := (if_neg (by rw [h1]; decide)).trans (if_neg (by rw [h2]; decide))
theorem adv_st {ok : Bool} {p : Nat × Bool} (h : p.2 = true) : adv ok p = p := if_pos h
theorem opt_st {ok : Bool} {p : Nat × Bool} (h : p.2 = true) : opt ok p = p := if_neg (fun e => by rw [h] at e; exact Bool.noConfusion e.1)
theorem opt_go {ok : Bool} {p : Nat × Bool} (h : p.2 = false) (h2 : ok = true) : opt ok p = (p.1 + 1, p.2) := if_pos ⟨h, h2⟩
theorem opt_no {ok : Bool} {p : Nat × Bool} (h2 : ok = false) : opt ok p = p := if_neg (fun e => by rw [h2] at e; exact Bool.noConfusion e.2)
theorem srt_le {t : Nat} (h : t ≤ 107) : srt t ≤ 8 := by
  unfold srt
  repeat' split
  all_goals omega
theorem srt_6 {t : Nat} : srt t = 6 ↔ t < 100 ∨ t = 109 := by
  unfold srt
  repeat' split
  all_goals omega
theorem srt_k {t : Nat} (h : t ≤ 107) (k : Nat) (hk : k ≤ 4) : srt t = k ↔ t = 103 + k := by
  unfold srt
  repeat' split
  all_goals omega
theorem srt_5 {t : Nat} (h : t ≤ 107) : srt t = 5 ↔ t = 100 := by
  unfold srt
  repeat' split
  all_goals omega
theorem srt_7 {t : Nat} (h : t ≤ 107) : srt t = 7 ↔ t = 102 := by
  unfold srt
  repeat' split
  all_goals omega
theorem inw {w : Nat} (m : Nat) (h : w ≤ 999) (hm : m < 2 ^ 31) : (nI 1 ≤ nI w ∧ nI w ≤ nI m) ↔ (1 ≤ w ∧ w ≤ m) := inI (by omega) (by decide) hm
theorem nmb_t {T : Nat → Nat} {m w : Nat} {p : Nat × Bool} (h1 : w = T p.1) (h2 : 1 ≤ w ∧ w ≤ m) : nmb T m p = true := decide_eq_true (by rw [← h1]; exact h2)
theorem nmb_f {T : Nat → Nat} {m w : Nat} {p : Nat × Bool} (h1 : w = T p.1) (h2 : ¬ (1 ≤ w ∧ w ≤ m)) : nmb T m p = false := decide_eq_false (by rw [← h1]; exact h2)
theorem nmb_n {T : Nat → Nat} {m : Nat} {p : Nat × Bool} (hm : m ≤ 99) (h2 : 100 ≤ T p.1) : nmb T m p = false := decide_eq_false (by omega)
set_option maxRecDepth 20000 in
/-- due(is) -/
theorem m_due (d : Nat) (L : Nat) (b : Nat → Nat) (q : Nat × Bool) (ok : Bool) (x : Int32) (w : Nat) (st : mSt) (hP : MS st L b) (hb : ∀ j, j < L → b j < 256) (hL : L ≤ 300) (hQ : MQu st b L q) (hV : st.1 53 16 = nI w) (hx : x = pI (ok = true)) : ∃ (s : mSt), mMC mT (d + 3) 136 [.ref 53, .int x] st (some (.int (nI w))) s ∧ MQu s b L (adv ok q) ∧ FF [53] [13, 14, 15, 16, 17] st s := by
  suffices H : ∀ Q : Option Value → mSt → Prop, (∀ (s : mSt), (MQu s b L (adv ok q) ∧ FF [53] [13, 14, 15, 16, 17] st s) → Q (some (.int (nI w))) s) → mW (mMC mT (d + 2)) (0, fun _ => 0) (mAtL P_X10_due) (some .int) Q 0 [some (.ref 53), some (.int x), none] [] st by
    obtain ⟨_, _, ⟨s, rfl, rfl, hp⟩, hw⟩ := mW_ex (H (fun vv tt => ∃ (s : mSt),  vv = some (.int (nI w)) ∧ s = tt ∧ MQu s b L (adv ok q) ∧ FF [53] [13, 14, 15, 16, 17] st s) (fun s hp => ⟨s, rfl, rfl, hp⟩))
    exact ⟨s, mI_X10_due (d := d + 2) (Nat.le_of_ble_eq_true rfl) hw, hp⟩
  intro Q hq
  subst hx
  have hpl := ps_le b L q.1
  by_cases hf2 : q.2 = true
  · have hF : st.1 53 17 = nI (ps b L q.1) := hQ.2.trans (if_pos hf2)
    rw [adv_st hf2] at hq
    refine w_blk 2 (pc' := 4) (ls' := [some (.ref 53), some (.int (pI (ok = true))), none]) (sk' := [.int (st.1 53 16)]) (st' := st) (fun _ h => h) ?_
    rw [hV]
    refine w_blk 3 (pc' := 9) (ls' := [some (.ref 53), some (.int (pI (ok = true))), some (.int (nI w))]) (sk' := [.int (st.1 53 17)]) (st' := st) (fun _ h => h) ?_
    rw [hF]
    refine w_blk 1 (pc' := 11) (ls' := [some (.ref 53), some (.int (pI (ok = true))), some (.int (nI w))]) (sk' := [.int (-9), .int (nI (ps b L q.1))]) (st' := st) (fun _ h => h) ?_
    refine w_cmp_ne rfl (fun _ => ?_) (fun hno => absurd (nI9 (by omega)) hno)
    refine w_blk 1 (pc' := 34) (ls' := [some (.ref 53), some (.int (pI (ok = true))), some (.int (nI w))]) (sk' := [.int (nI w)]) (st' := st) (fun _ h => h) ?_
    exact w_iret rfl rfl rfl (hq st ⟨hQ, FF.rf⟩)
  · have hff : q.2 = false := Bool.eq_false_iff.mpr hf2
    have hF : st.1 53 17 = -9 := hQ.2.trans (if_neg hf2)
    refine w_blk 2 (pc' := 4) (ls' := [some (.ref 53), some (.int (pI (ok = true))), none]) (sk' := [.int (st.1 53 16)]) (st' := st) (fun _ h => h) ?_
    rw [hV]
    refine w_blk 3 (pc' := 9) (ls' := [some (.ref 53), some (.int (pI (ok = true))), some (.int (nI w))]) (sk' := [.int (st.1 53 17)]) (st' := st) (fun _ h => h) ?_
    rw [hF]
    refine w_blk 1 (pc' := 11) (ls' := [some (.ref 53), some (.int (pI (ok = true))), some (.int (nI w))]) (sk' := [.int (-9), .int (-9)]) (st' := st) (fun _ h => h) ?_
    refine w_cmp_ne rfl (fun hno => absurd hno (fun hh => hh rfl)) (fun _ => ?_)
    refine w_blk 1 (pc' := 15) (ls' := [some (.ref 53), some (.int (pI (ok = true))), some (.int (nI w))]) (sk' := [.int (pI (ok = true))]) (st' := st) (fun _ h => h) ?_
    refine w_if_eq rfl (fun h1 => ?_) (fun h1 => ?_)
    · replace h1 := pI_eq0.mp h1
      refine w_blk 3 (pc' := 30) (ls' := [some (.ref 53), some (.int (pI (ok = true))), some (.int (nI w))]) (sk' := [.int (st.1 53 14), .ref 53]) (st' := st) (fun _ h => h) ?_
      rw [hQ.1.2.1]
      refine w_blk 2 (pc' := 34) (ls' := [some (.ref 53), some (.int (pI (ok = true))), some (.int (nI w))]) (sk' := [.int (nI w)]) (st' := ((mU st.1 53 17 (nI (ps b L q.1))), st.2)) (fun _ h => h) ?_
      rw [adv_no hff (Bool.eq_false_iff.mpr h1)] at hq
      exact w_iret rfl rfl rfl (hq ((mU st.1 53 17 (nI (ps b L q.1))), st.2) ⟨⟨hQ.1, (show mU st.1 53 17 (nI (ps b L q.1)) 53 17 = _ from mU_at).trans (if_pos rfl).symm⟩, FF.w53 FF.rf (by decide) (by decide)⟩)
    · replace h1 := pI_ne.mp h1
      rw [adv_go hff h1] at hq
      obtain ⟨s1, hc, hk, hf⟩ := m_next (d + 0) L b (nxt b L (ps b L q.1)) st hP hb hL hQ.1.1 (nxt_le hpl)
      refine w_blk 1 (pc' := 19) (ls' := [some (.ref 53), some (.int (pI (ok = true))), some (.int (nI w))]) (sk' := [.ref 53]) (st' := st) (fun _ h => h) ?_
      refine w_callV (As := [.ref 53]) (rest := []) rfl rfl rfl (Nat.le_of_ble_eq_true rfl) (Nat.le_of_ble_eq_true rfl) (by first | exact Or.inl ⟨rfl, rfl⟩ | exact Or.inr ⟨rfl, rfl⟩) hc ?_
      refine w_blk 2 (pc' := 34) (ls' := [some (.ref 53), some (.int (pI (ok = true))), some (.int (nI w))]) (sk' := [.int (nI w)]) (st' := s1) (fun _ h => h) ?_
      exact w_iret rfl rfl rfl (hq s1 ⟨⟨hk, (hf.2.1 17 (by decide)).trans hF⟩, FF.mono hf (by decide) (by decide)⟩)
set_option maxRecDepth 20000 in
/-- number(1, 9) -/
theorem m_number9 (d : Nat) (L : Nat) (b : Nat → Nat) (q : Nat × Bool) (st : mSt) (hP : MS st L b) (hb : ∀ j, j < L → b j < 256) (hL : L ≤ 300) (hQ : MQu st b L q) : ∃ (w : Nat) (s : mSt), mMC mT (d + 4) 137 [.ref 53, .int 1, .int 9] st (some (.int (nI w))) s ∧ MQu s b L (adv (nmb (TT b L) 9 q) q) ∧ (nmb (TT b L) 9 q = true → w = TT b L q.1) ∧ FF [53] [13, 14, 15, 16, 17] st s := by
  suffices H : ∀ Q : Option Value → mSt → Prop, (∀ (w : Nat) (s : mSt), (MQu s b L (adv (nmb (TT b L) 9 q) q) ∧ (nmb (TT b L) 9 q = true → w = TT b L q.1) ∧ FF [53] [13, 14, 15, 16, 17] st s) → Q (some (.int (nI w))) s) → mW (mMC mT (d + 3)) (0, fun _ => 0) (mAtL P_X10_number) (some .int) Q 0 [some (.ref 53), some (.int 1), some (.int 9)] [] st by
    obtain ⟨_, _, ⟨w, s, rfl, rfl, hp⟩, hw⟩ := mW_ex (H (fun vv tt => ∃ (w : Nat) (s : mSt),  vv = some (.int (nI w)) ∧ s = tt ∧ MQu s b L (adv (nmb (TT b L) 9 q) q) ∧ (nmb (TT b L) 9 q = true → w = TT b L q.1) ∧ FF [53] [13, 14, 15, 16, 17] st s) (fun w s hp => ⟨w, s, rfl, rfl, hp⟩))
    exact ⟨w, s, mI_X10_number (d := d + 3) (Nat.le_of_ble_eq_true rfl) hw, hp⟩
  intro Q hq
  have hpl := ps_le b L q.1
  obtain ⟨w, hV, hw9, hwT⟩ := hQ.1.2.2.2
  have hT := TT_r b L q.1
  have hs8 := srt_le hT.1
  have h6 := srt_6 (t := TT b L q.1)
  have hsr : st.1 53 15 = nI (srt (TT b L q.1)) := hQ.1.2.2.1
  refine w_blk 3 (pc' := 5) (ls' := [some (.ref 53), some (.int 1), some (.int 9)]) (sk' := [.int (st.1 53 15), .ref 53]) (st' := st) (fun _ h => h) ?_
  rw [hsr]
  refine w_blk 1 (pc' := 7) (ls' := [some (.ref 53), some (.int 1), some (.int 9)]) (sk' := [.int 6, .int (nI (srt (TT b L q.1))), .ref 53]) (st' := st) (fun _ h => h) ?_
  refine w_cmp_ne rfl (fun h1 => ?_) (fun h1 => ?_)
  · replace h1 : ¬ (srt (TT b L q.1) = 6) := fun hh => h1 ((nI_eq (a := (srt (TT b L q.1))) (b := 6) (by omega) (by omega)).mpr hh)
    refine w_blk 1 (pc' := 27) (ls' := [some (.ref 53), some (.int 1), some (.int 9)]) (sk' := [.int 0, .ref 53]) (st' := st) (fun _ h => h) ?_
    have hok : nmb (TT b L) 9 q = false := nmb_n (by decide) (by omega)
    obtain ⟨s1, hc, hk, hf⟩ := m_due (d + 0) L b q (nmb (TT b L) 9 q) 0 w st hP hb hL hQ hV (by rw [hok]; rfl)
    refine w_callV (As := [.ref 53, .int 0]) (rest := []) rfl rfl rfl (Nat.le_of_ble_eq_true rfl) (Nat.le_of_ble_eq_true rfl) (by first | exact Or.inl ⟨rfl, rfl⟩ | exact Or.inr ⟨rfl, rfl⟩) hc ?_
    exact w_iret rfl rfl rfl (hq w s1 ⟨hk, fun h => absurd h (by rw [hok]; decide), hf⟩)
  · replace h1 : srt (TT b L q.1) = 6 := (nI_eq (a := (srt (TT b L q.1))) (b := 6) (by omega) (by omega)).mp (Decidable.not_not.mp h1)
    have hT1 : TT b L q.1 < 100 := by omega
    have hwe : w = TT b L q.1 := hwT hT1
    refine w_blk 2 (pc' := 14) (ls' := [some (.ref 53), some (.int 1), some (.int 9)]) (sk' := [.int (st.1 53 16), .ref 53]) (st' := st) (fun _ h => h) ?_
    rw [hV]
    refine w_blk 2 (pc' := 16) (ls' := [some (.ref 53), some (.int 1), some (.int 9)]) (sk' := [.int 9, .int 1, .int (nI w), .ref 53]) (st' := st) (fun _ h => h) ?_
    refine w_callS (As := [.int (nI w), .int 1, .int 9]) (rest := [.ref 53]) rfl rfl rfl (Nat.le_of_ble_eq_true rfl) (Nat.le_of_ble_eq_true rfl) (m_in (d + 2) (nI w) 1 9 st) ?_
    rw [show (pI (1 ≤ (nI w) ∧ (nI w) ≤ 9)) = pI (1 ≤ w ∧ w ≤ 9) from pI_cong (inw 9 hw9 (by decide))]
    refine w_if_eq rfl (fun h2 => ?_) (fun h2 => ?_)
    · replace h2 := pI_eq0.mp h2
      refine w_blk 1 (pc' := 27) (ls' := [some (.ref 53), some (.int 1), some (.int 9)]) (sk' := [.int 0, .ref 53]) (st' := st) (fun _ h => h) ?_
      have hok : nmb (TT b L) 9 q = false := nmb_f hwe h2
      obtain ⟨s1, hc, hk, hf⟩ := m_due (d + 0) L b q (nmb (TT b L) 9 q) 0 w st hP hb hL hQ hV (by rw [hok]; rfl)
      refine w_callV (As := [.ref 53, .int 0]) (rest := []) rfl rfl rfl (Nat.le_of_ble_eq_true rfl) (Nat.le_of_ble_eq_true rfl) (by first | exact Or.inl ⟨rfl, rfl⟩ | exact Or.inr ⟨rfl, rfl⟩) hc ?_
      exact w_iret rfl rfl rfl (hq w s1 ⟨hk, fun h => absurd h (by rw [hok]; decide), hf⟩)
    · replace h2 := pI_ne.mp h2
      refine w_blk 2 (pc' := 27) (ls' := [some (.ref 53), some (.int 1), some (.int 9)]) (sk' := [.int 1, .ref 53]) (st' := st) (fun _ h => h) ?_
      have hok : nmb (TT b L) 9 q = true := nmb_t hwe h2
      obtain ⟨s1, hc, hk, hf⟩ := m_due (d + 0) L b q (nmb (TT b L) 9 q) 1 w st hP hb hL hQ hV (by rw [hok]; rfl)
      refine w_callV (As := [.ref 53, .int 1]) (rest := []) rfl rfl rfl (Nat.le_of_ble_eq_true rfl) (Nat.le_of_ble_eq_true rfl) (by first | exact Or.inl ⟨rfl, rfl⟩ | exact Or.inr ⟨rfl, rfl⟩) hc ?_
      exact w_iret rfl rfl rfl (hq w s1 ⟨hk, fun _ => hwe, hf⟩)
set_option maxRecDepth 20000 in
/-- number(1, 99) -/
theorem m_number99 (d : Nat) (L : Nat) (b : Nat → Nat) (q : Nat × Bool) (st : mSt) (hP : MS st L b) (hb : ∀ j, j < L → b j < 256) (hL : L ≤ 300) (hQ : MQu st b L q) : ∃ (w : Nat) (s : mSt), mMC mT (d + 4) 137 [.ref 53, .int 1, .int 99] st (some (.int (nI w))) s ∧ MQu s b L (adv (nmb (TT b L) 99 q) q) ∧ (nmb (TT b L) 99 q = true → w = TT b L q.1) ∧ FF [53] [13, 14, 15, 16, 17] st s := by
  suffices H : ∀ Q : Option Value → mSt → Prop, (∀ (w : Nat) (s : mSt), (MQu s b L (adv (nmb (TT b L) 99 q) q) ∧ (nmb (TT b L) 99 q = true → w = TT b L q.1) ∧ FF [53] [13, 14, 15, 16, 17] st s) → Q (some (.int (nI w))) s) → mW (mMC mT (d + 3)) (0, fun _ => 0) (mAtL P_X10_number) (some .int) Q 0 [some (.ref 53), some (.int 1), some (.int 99)] [] st by
    obtain ⟨_, _, ⟨w, s, rfl, rfl, hp⟩, hw⟩ := mW_ex (H (fun vv tt => ∃ (w : Nat) (s : mSt),  vv = some (.int (nI w)) ∧ s = tt ∧ MQu s b L (adv (nmb (TT b L) 99 q) q) ∧ (nmb (TT b L) 99 q = true → w = TT b L q.1) ∧ FF [53] [13, 14, 15, 16, 17] st s) (fun w s hp => ⟨w, s, rfl, rfl, hp⟩))
    exact ⟨w, s, mI_X10_number (d := d + 3) (Nat.le_of_ble_eq_true rfl) hw, hp⟩
  intro Q hq
  have hpl := ps_le b L q.1
  obtain ⟨w, hV, hw9, hwT⟩ := hQ.1.2.2.2
  have hT := TT_r b L q.1
  have hs8 := srt_le hT.1
  have h6 := srt_6 (t := TT b L q.1)
  have hsr : st.1 53 15 = nI (srt (TT b L q.1)) := hQ.1.2.2.1
  refine w_blk 3 (pc' := 5) (ls' := [some (.ref 53), some (.int 1), some (.int 99)]) (sk' := [.int (st.1 53 15), .ref 53]) (st' := st) (fun _ h => h) ?_
  rw [hsr]
  refine w_blk 1 (pc' := 7) (ls' := [some (.ref 53), some (.int 1), some (.int 99)]) (sk' := [.int 6, .int (nI (srt (TT b L q.1))), .ref 53]) (st' := st) (fun _ h => h) ?_
  refine w_cmp_ne rfl (fun h1 => ?_) (fun h1 => ?_)
  · replace h1 : ¬ (srt (TT b L q.1) = 6) := fun hh => h1 ((nI_eq (a := (srt (TT b L q.1))) (b := 6) (by omega) (by omega)).mpr hh)
    refine w_blk 1 (pc' := 27) (ls' := [some (.ref 53), some (.int 1), some (.int 99)]) (sk' := [.int 0, .ref 53]) (st' := st) (fun _ h => h) ?_
    have hok : nmb (TT b L) 99 q = false := nmb_n (by decide) (by omega)
    obtain ⟨s1, hc, hk, hf⟩ := m_due (d + 0) L b q (nmb (TT b L) 99 q) 0 w st hP hb hL hQ hV (by rw [hok]; rfl)
    refine w_callV (As := [.ref 53, .int 0]) (rest := []) rfl rfl rfl (Nat.le_of_ble_eq_true rfl) (Nat.le_of_ble_eq_true rfl) (by first | exact Or.inl ⟨rfl, rfl⟩ | exact Or.inr ⟨rfl, rfl⟩) hc ?_
    exact w_iret rfl rfl rfl (hq w s1 ⟨hk, fun h => absurd h (by rw [hok]; decide), hf⟩)
  · replace h1 : srt (TT b L q.1) = 6 := (nI_eq (a := (srt (TT b L q.1))) (b := 6) (by omega) (by omega)).mp (Decidable.not_not.mp h1)
    have hT1 : TT b L q.1 < 100 := by omega
    have hwe : w = TT b L q.1 := hwT hT1
    refine w_blk 2 (pc' := 14) (ls' := [some (.ref 53), some (.int 1), some (.int 99)]) (sk' := [.int (st.1 53 16), .ref 53]) (st' := st) (fun _ h => h) ?_
    rw [hV]
    refine w_blk 2 (pc' := 16) (ls' := [some (.ref 53), some (.int 1), some (.int 99)]) (sk' := [.int 99, .int 1, .int (nI w), .ref 53]) (st' := st) (fun _ h => h) ?_
    refine w_callS (As := [.int (nI w), .int 1, .int 99]) (rest := [.ref 53]) rfl rfl rfl (Nat.le_of_ble_eq_true rfl) (Nat.le_of_ble_eq_true rfl) (m_in (d + 2) (nI w) 1 99 st) ?_
    rw [show (pI (1 ≤ (nI w) ∧ (nI w) ≤ 99)) = pI (1 ≤ w ∧ w ≤ 99) from pI_cong (inw 99 hw9 (by decide))]
    refine w_if_eq rfl (fun h2 => ?_) (fun h2 => ?_)
    · replace h2 := pI_eq0.mp h2
      refine w_blk 1 (pc' := 27) (ls' := [some (.ref 53), some (.int 1), some (.int 99)]) (sk' := [.int 0, .ref 53]) (st' := st) (fun _ h => h) ?_
      have hok : nmb (TT b L) 99 q = false := nmb_f hwe h2
      obtain ⟨s1, hc, hk, hf⟩ := m_due (d + 0) L b q (nmb (TT b L) 99 q) 0 w st hP hb hL hQ hV (by rw [hok]; rfl)
      refine w_callV (As := [.ref 53, .int 0]) (rest := []) rfl rfl rfl (Nat.le_of_ble_eq_true rfl) (Nat.le_of_ble_eq_true rfl) (by first | exact Or.inl ⟨rfl, rfl⟩ | exact Or.inr ⟨rfl, rfl⟩) hc ?_
      exact w_iret rfl rfl rfl (hq w s1 ⟨hk, fun h => absurd h (by rw [hok]; decide), hf⟩)
    · replace h2 := pI_ne.mp h2
      refine w_blk 2 (pc' := 27) (ls' := [some (.ref 53), some (.int 1), some (.int 99)]) (sk' := [.int 1, .ref 53]) (st' := st) (fun _ h => h) ?_
      have hok : nmb (TT b L) 99 q = true := nmb_t hwe h2
      obtain ⟨s1, hc, hk, hf⟩ := m_due (d + 0) L b q (nmb (TT b L) 99 q) 1 w st hP hb hL hQ hV (by rw [hok]; rfl)
      refine w_callV (As := [.ref 53, .int 1]) (rest := []) rfl rfl rfl (Nat.le_of_ble_eq_true rfl) (Nat.le_of_ble_eq_true rfl) (by first | exact Or.inl ⟨rfl, rfl⟩ | exact Or.inr ⟨rfl, rfl⟩) hc ?_
      exact w_iret rfl rfl rfl (hq w s1 ⟨hk, fun _ => hwe, hf⟩)
set_option maxRecDepth 20000 in
/-- side(0) -/
theorem m_side0 (d : Nat) (L : Nat) (b : Nat → Nat) (q : Nat × Bool) (st : mSt) (hP : MS st L b) (hb : ∀ j, j < L → b j < 256) (hL : L ≤ 300) (hQ : MQu st b L q) : ∃ (s : mSt), mMC mT (d + 3) 138 [.ref 53, .int 0] st (some (.int (nI (if TT b L q.1 = 107 then 2 else 0)))) s ∧ MQu s b L (opt (decide (TT b L q.1 = 107)) q) ∧ FF [53] [13, 14, 15, 16, 17] st s := by
  suffices H : ∀ Q : Option Value → mSt → Prop, (∀ (s : mSt), (MQu s b L (opt (decide (TT b L q.1 = 107)) q) ∧ FF [53] [13, 14, 15, 16, 17] st s) → Q (some (.int (nI (if TT b L q.1 = 107 then 2 else 0)))) s) → mW (mMC mT (d + 2)) (0, fun _ => 0) (mAtL P_X10_side) (some .int) Q 0 [some (.ref 53), some (.int 0), none] [] st by
    obtain ⟨_, _, ⟨s, rfl, rfl, hp⟩, hw⟩ := mW_ex (H (fun vv tt => ∃ (s : mSt),  vv = some (.int (nI (if TT b L q.1 = 107 then 2 else 0))) ∧ s = tt ∧ MQu s b L (opt (decide (TT b L q.1 = 107)) q) ∧ FF [53] [13, 14, 15, 16, 17] st s) (fun s hp => ⟨s, rfl, rfl, hp⟩))
    exact ⟨s, mI_X10_side (d := d + 2) (Nat.le_of_ble_eq_true rfl) hw, hp⟩
  intro Q hq
  have hpl := ps_le b L q.1
  have hT := TT_r b L q.1
  have hs8 := srt_le hT.1
  have h4 := srt_k hT.1 4 (by decide)
  have h3 := srt_k hT.1 3 (by decide)
  have hsr : st.1 53 15 = nI (srt (TT b L q.1)) := hQ.1.2.2.1
  refine w_blk 2 (pc' := 4) (ls' := [some (.ref 53), some (.int 0), none]) (sk' := [.int (st.1 53 15)]) (st' := st) (fun _ h => h) ?_
  rw [hsr]
  refine w_blk 1 (pc' := 5) (ls' := [some (.ref 53), some (.int 0), none]) (sk' := [.int 4, .int (nI (srt (TT b L q.1)))]) (st' := st) (fun _ h => h) ?_
  refine w_cmp_ne rfl (fun h1 => ?_) (fun h1 => ?_)
  · replace h1 : ¬ (srt (TT b L q.1) = 4) := fun hh => h1 ((nI_eq (a := (srt (TT b L q.1))) (b := 4) (by omega) (by omega)).mpr hh)
    refine w_blk 2 (pc' := 16) (ls' := [some (.ref 53), some (.int 0), none]) (sk' := [.int (st.1 53 15)]) (st' := st) (fun _ h => h) ?_
    rw [hsr]
    refine w_blk 1 (pc' := 17) (ls' := [some (.ref 53), some (.int 0), none]) (sk' := [.int 3, .int (nI (srt (TT b L q.1)))]) (st' := st) (fun _ h => h) ?_
    refine w_cmp_ne rfl (fun h2 => ?_) (fun h2 => ?_)
    · replace h2 : ¬ (srt (TT b L q.1) = 3) := fun hh => h2 ((nI_eq (a := (srt (TT b L q.1))) (b := 3) (by omega) (by omega)).mpr hh)
      refine w_blk 1 (pc' := 29) (ls' := [some (.ref 53), some (.int 0), none]) (sk' := [.int 0]) (st' := st) (fun _ h => h) ?_
      have htt : TT b L q.1 ≠ 107 := by omega
      rw [show (if TT b L q.1 = 107 then 2 else 0) = 0 from if_neg htt] at hq
      have hok : (decide (TT b L q.1 = 107)) = false := decide_eq_false (by omega)
      by_cases hf2 : q.2 = true
      · have hF : st.1 53 17 = nI (ps b L q.1) := hQ.2.trans (if_pos hf2)
        rw [opt_st hf2] at hq
        refine w_blk 3 (pc' := 34) (ls' := [some (.ref 53), some (.int 0), some (.int 0)]) (sk' := [.int (st.1 53 17)]) (st' := st) (fun _ h => h) ?_
        rw [hF]
        refine w_blk 1 (pc' := 36) (ls' := [some (.ref 53), some (.int 0), some (.int 0)]) (sk' := [.int (-9), .int (nI (ps b L q.1))]) (st' := st) (fun _ h => h) ?_
        refine w_cmp_ne rfl (fun _ => ?_) (fun hno => absurd (nI9 (by omega)) hno)
        refine w_blk 1 (pc' := 48) (ls' := [some (.ref 53), some (.int 0), some (.int 0)]) (sk' := [.int 0]) (st' := st) (fun _ h => h) ?_
        exact w_iret rfl rfl rfl (hq st ⟨hQ, FF.rf⟩)
      · have hff : q.2 = false := Bool.eq_false_iff.mpr hf2
        have hF : st.1 53 17 = -9 := hQ.2.trans (if_neg hf2)
        refine w_blk 3 (pc' := 34) (ls' := [some (.ref 53), some (.int 0), some (.int 0)]) (sk' := [.int (st.1 53 17)]) (st' := st) (fun _ h => h) ?_
        rw [hF]
        refine w_blk 1 (pc' := 36) (ls' := [some (.ref 53), some (.int 0), some (.int 0)]) (sk' := [.int (-9), .int (-9)]) (st' := st) (fun _ h => h) ?_
        refine w_cmp_ne rfl (fun hno => absurd hno (fun hh => hh rfl)) (fun _ => ?_)
        refine w_blk 1 (pc' := 40) (ls' := [some (.ref 53), some (.int 0), some (.int 0)]) (sk' := [.int 0]) (st' := st) (fun _ h => h) ?_
        refine w_if_le rfl (fun _ => ?_) (fun hno => absurd (by decide) hno)
        refine w_blk 1 (pc' := 48) (ls' := [some (.ref 53), some (.int 0), some (.int 0)]) (sk' := [.int 0]) (st' := st) (fun _ h => h) ?_
        rw [opt_no hok] at hq
        exact w_iret rfl rfl rfl (hq st ⟨hQ, FF.rf⟩)
    · replace h2 : srt (TT b L q.1) = 3 := (nI_eq (a := (srt (TT b L q.1))) (b := 3) (by omega) (by omega)).mp (Decidable.not_not.mp h2)
      refine w_blk 1 (pc' := 21) (ls' := [some (.ref 53), some (.int 0), none]) (sk' := [.int 0]) (st' := st) (fun _ h => h) ?_
      refine w_if_eq rfl (fun _ => ?_) (fun hno => absurd (by decide) hno)
      refine w_blk 1 (pc' := 29) (ls' := [some (.ref 53), some (.int 0), none]) (sk' := [.int 0]) (st' := st) (fun _ h => h) ?_
      have htt : TT b L q.1 ≠ 107 := by omega
      rw [show (if TT b L q.1 = 107 then 2 else 0) = 0 from if_neg htt] at hq
      have hok : (decide (TT b L q.1 = 107)) = false := decide_eq_false (by omega)
      by_cases hf2 : q.2 = true
      · have hF : st.1 53 17 = nI (ps b L q.1) := hQ.2.trans (if_pos hf2)
        rw [opt_st hf2] at hq
        refine w_blk 3 (pc' := 34) (ls' := [some (.ref 53), some (.int 0), some (.int 0)]) (sk' := [.int (st.1 53 17)]) (st' := st) (fun _ h => h) ?_
        rw [hF]
        refine w_blk 1 (pc' := 36) (ls' := [some (.ref 53), some (.int 0), some (.int 0)]) (sk' := [.int (-9), .int (nI (ps b L q.1))]) (st' := st) (fun _ h => h) ?_
        refine w_cmp_ne rfl (fun _ => ?_) (fun hno => absurd (nI9 (by omega)) hno)
        refine w_blk 1 (pc' := 48) (ls' := [some (.ref 53), some (.int 0), some (.int 0)]) (sk' := [.int 0]) (st' := st) (fun _ h => h) ?_
        exact w_iret rfl rfl rfl (hq st ⟨hQ, FF.rf⟩)
      · have hff : q.2 = false := Bool.eq_false_iff.mpr hf2
        have hF : st.1 53 17 = -9 := hQ.2.trans (if_neg hf2)
        refine w_blk 3 (pc' := 34) (ls' := [some (.ref 53), some (.int 0), some (.int 0)]) (sk' := [.int (st.1 53 17)]) (st' := st) (fun _ h => h) ?_
        rw [hF]
        refine w_blk 1 (pc' := 36) (ls' := [some (.ref 53), some (.int 0), some (.int 0)]) (sk' := [.int (-9), .int (-9)]) (st' := st) (fun _ h => h) ?_
        refine w_cmp_ne rfl (fun hno => absurd hno (fun hh => hh rfl)) (fun _ => ?_)
        refine w_blk 1 (pc' := 40) (ls' := [some (.ref 53), some (.int 0), some (.int 0)]) (sk' := [.int 0]) (st' := st) (fun _ h => h) ?_
        refine w_if_le rfl (fun _ => ?_) (fun hno => absurd (by decide) hno)
        refine w_blk 1 (pc' := 48) (ls' := [some (.ref 53), some (.int 0), some (.int 0)]) (sk' := [.int 0]) (st' := st) (fun _ h => h) ?_
        rw [opt_no hok] at hq
        exact w_iret rfl rfl rfl (hq st ⟨hQ, FF.rf⟩)
  · replace h1 : srt (TT b L q.1) = 4 := (nI_eq (a := (srt (TT b L q.1))) (b := 4) (by omega) (by omega)).mp (Decidable.not_not.mp h1)
    refine w_blk 2 (pc' := 29) (ls' := [some (.ref 53), some (.int 0), none]) (sk' := [.int 2]) (st' := st) (fun _ h => h) ?_
    have htt : TT b L q.1 = 107 := by omega
    rw [show (if TT b L q.1 = 107 then 2 else 0) = 2 from if_pos htt] at hq
    have hok : (decide (TT b L q.1 = 107)) = true := decide_eq_true (by omega)
    by_cases hf2 : q.2 = true
    · have hF : st.1 53 17 = nI (ps b L q.1) := hQ.2.trans (if_pos hf2)
      rw [opt_st hf2] at hq
      refine w_blk 3 (pc' := 34) (ls' := [some (.ref 53), some (.int 0), some (.int 2)]) (sk' := [.int (st.1 53 17)]) (st' := st) (fun _ h => h) ?_
      rw [hF]
      refine w_blk 1 (pc' := 36) (ls' := [some (.ref 53), some (.int 0), some (.int 2)]) (sk' := [.int (-9), .int (nI (ps b L q.1))]) (st' := st) (fun _ h => h) ?_
      refine w_cmp_ne rfl (fun _ => ?_) (fun hno => absurd (nI9 (by omega)) hno)
      refine w_blk 1 (pc' := 48) (ls' := [some (.ref 53), some (.int 0), some (.int 2)]) (sk' := [.int 2]) (st' := st) (fun _ h => h) ?_
      exact w_iret rfl rfl rfl (hq st ⟨hQ, FF.rf⟩)
    · have hff : q.2 = false := Bool.eq_false_iff.mpr hf2
      have hF : st.1 53 17 = -9 := hQ.2.trans (if_neg hf2)
      refine w_blk 3 (pc' := 34) (ls' := [some (.ref 53), some (.int 0), some (.int 2)]) (sk' := [.int (st.1 53 17)]) (st' := st) (fun _ h => h) ?_
      rw [hF]
      refine w_blk 1 (pc' := 36) (ls' := [some (.ref 53), some (.int 0), some (.int 2)]) (sk' := [.int (-9), .int (-9)]) (st' := st) (fun _ h => h) ?_
      refine w_cmp_ne rfl (fun hno => absurd hno (fun hh => hh rfl)) (fun _ => ?_)
      refine w_blk 1 (pc' := 40) (ls' := [some (.ref 53), some (.int 0), some (.int 2)]) (sk' := [.int 2]) (st' := st) (fun _ h => h) ?_
      refine w_if_le rfl (fun hno => absurd hno (by decide)) (fun _ => ?_)
      refine w_blk 1 (pc' := 44) (ls' := [some (.ref 53), some (.int 0), some (.int 2)]) (sk' := [.ref 53]) (st' := st) (fun _ h => h) ?_
      rw [opt_go hff hok, hff] at hq
      obtain ⟨s1, hc, hk, hf⟩ := m_next (d + 0) L b (nxt b L (ps b L q.1)) st hP hb hL hQ.1.1 (nxt_le hpl)
      refine w_callV (As := [.ref 53]) (rest := []) rfl rfl rfl (Nat.le_of_ble_eq_true rfl) (Nat.le_of_ble_eq_true rfl) (by first | exact Or.inl ⟨rfl, rfl⟩ | exact Or.inr ⟨rfl, rfl⟩) hc ?_
      refine w_blk 1 (pc' := 48) (ls' := [some (.ref 53), some (.int 0), some (.int 2)]) (sk' := [.int 2]) (st' := s1) (fun _ h => h) ?_
      exact w_iret rfl rfl rfl (hq s1 ⟨⟨hk, (hf.2.1 17 (by decide)).trans hF⟩, FF.mono hf (by decide) (by decide)⟩)
set_option maxRecDepth 20000 in
/-- side(1) -/
theorem m_side1 (d : Nat) (L : Nat) (b : Nat → Nat) (q : Nat × Bool) (st : mSt) (hP : MS st L b) (hb : ∀ j, j < L → b j < 256) (hL : L ≤ 300) (hQ : MQu st b L q) : ∃ (s : mSt), mMC mT (d + 3) 138 [.ref 53, .int 1] st (some (.int (nI (wm (TT b L q.1))))) s ∧ MQu s b L (opt (decide (TT b L q.1 = 106 ∨ TT b L q.1 = 107)) q) ∧ FF [53] [13, 14, 15, 16, 17] st s := by
  suffices H : ∀ Q : Option Value → mSt → Prop, (∀ (s : mSt), (MQu s b L (opt (decide (TT b L q.1 = 106 ∨ TT b L q.1 = 107)) q) ∧ FF [53] [13, 14, 15, 16, 17] st s) → Q (some (.int (nI (wm (TT b L q.1))))) s) → mW (mMC mT (d + 2)) (0, fun _ => 0) (mAtL P_X10_side) (some .int) Q 0 [some (.ref 53), some (.int 1), none] [] st by
    obtain ⟨_, _, ⟨s, rfl, rfl, hp⟩, hw⟩ := mW_ex (H (fun vv tt => ∃ (s : mSt),  vv = some (.int (nI (wm (TT b L q.1)))) ∧ s = tt ∧ MQu s b L (opt (decide (TT b L q.1 = 106 ∨ TT b L q.1 = 107)) q) ∧ FF [53] [13, 14, 15, 16, 17] st s) (fun s hp => ⟨s, rfl, rfl, hp⟩))
    exact ⟨s, mI_X10_side (d := d + 2) (Nat.le_of_ble_eq_true rfl) hw, hp⟩
  intro Q hq
  have hpl := ps_le b L q.1
  have hT := TT_r b L q.1
  have hs8 := srt_le hT.1
  have h4 := srt_k hT.1 4 (by decide)
  have h3 := srt_k hT.1 3 (by decide)
  have hsr : st.1 53 15 = nI (srt (TT b L q.1)) := hQ.1.2.2.1
  refine w_blk 2 (pc' := 4) (ls' := [some (.ref 53), some (.int 1), none]) (sk' := [.int (st.1 53 15)]) (st' := st) (fun _ h => h) ?_
  rw [hsr]
  refine w_blk 1 (pc' := 5) (ls' := [some (.ref 53), some (.int 1), none]) (sk' := [.int 4, .int (nI (srt (TT b L q.1)))]) (st' := st) (fun _ h => h) ?_
  refine w_cmp_ne rfl (fun h1 => ?_) (fun h1 => ?_)
  · replace h1 : ¬ (srt (TT b L q.1) = 4) := fun hh => h1 ((nI_eq (a := (srt (TT b L q.1))) (b := 4) (by omega) (by omega)).mpr hh)
    refine w_blk 2 (pc' := 16) (ls' := [some (.ref 53), some (.int 1), none]) (sk' := [.int (st.1 53 15)]) (st' := st) (fun _ h => h) ?_
    rw [hsr]
    refine w_blk 1 (pc' := 17) (ls' := [some (.ref 53), some (.int 1), none]) (sk' := [.int 3, .int (nI (srt (TT b L q.1)))]) (st' := st) (fun _ h => h) ?_
    refine w_cmp_ne rfl (fun h2 => ?_) (fun h2 => ?_)
    · replace h2 : ¬ (srt (TT b L q.1) = 3) := fun hh => h2 ((nI_eq (a := (srt (TT b L q.1))) (b := 3) (by omega) (by omega)).mpr hh)
      refine w_blk 1 (pc' := 29) (ls' := [some (.ref 53), some (.int 1), none]) (sk' := [.int 0]) (st' := st) (fun _ h => h) ?_
      have htt : TT b L q.1 ≠ 107 ∧ TT b L q.1 ≠ 106 := by omega
      rw [show (wm (TT b L q.1)) = 0 from (if_neg htt.2).trans (if_neg htt.1)] at hq
      have hok : (decide (TT b L q.1 = 106 ∨ TT b L q.1 = 107)) = false := decide_eq_false (by omega)
      by_cases hf2 : q.2 = true
      · have hF : st.1 53 17 = nI (ps b L q.1) := hQ.2.trans (if_pos hf2)
        rw [opt_st hf2] at hq
        refine w_blk 3 (pc' := 34) (ls' := [some (.ref 53), some (.int 1), some (.int 0)]) (sk' := [.int (st.1 53 17)]) (st' := st) (fun _ h => h) ?_
        rw [hF]
        refine w_blk 1 (pc' := 36) (ls' := [some (.ref 53), some (.int 1), some (.int 0)]) (sk' := [.int (-9), .int (nI (ps b L q.1))]) (st' := st) (fun _ h => h) ?_
        refine w_cmp_ne rfl (fun _ => ?_) (fun hno => absurd (nI9 (by omega)) hno)
        refine w_blk 1 (pc' := 48) (ls' := [some (.ref 53), some (.int 1), some (.int 0)]) (sk' := [.int 0]) (st' := st) (fun _ h => h) ?_
        exact w_iret rfl rfl rfl (hq st ⟨hQ, FF.rf⟩)
      · have hff : q.2 = false := Bool.eq_false_iff.mpr hf2
        have hF : st.1 53 17 = -9 := hQ.2.trans (if_neg hf2)
        refine w_blk 3 (pc' := 34) (ls' := [some (.ref 53), some (.int 1), some (.int 0)]) (sk' := [.int (st.1 53 17)]) (st' := st) (fun _ h => h) ?_
        rw [hF]
        refine w_blk 1 (pc' := 36) (ls' := [some (.ref 53), some (.int 1), some (.int 0)]) (sk' := [.int (-9), .int (-9)]) (st' := st) (fun _ h => h) ?_
        refine w_cmp_ne rfl (fun hno => absurd hno (fun hh => hh rfl)) (fun _ => ?_)
        refine w_blk 1 (pc' := 40) (ls' := [some (.ref 53), some (.int 1), some (.int 0)]) (sk' := [.int 0]) (st' := st) (fun _ h => h) ?_
        refine w_if_le rfl (fun _ => ?_) (fun hno => absurd (by decide) hno)
        refine w_blk 1 (pc' := 48) (ls' := [some (.ref 53), some (.int 1), some (.int 0)]) (sk' := [.int 0]) (st' := st) (fun _ h => h) ?_
        rw [opt_no hok] at hq
        exact w_iret rfl rfl rfl (hq st ⟨hQ, FF.rf⟩)
    · replace h2 : srt (TT b L q.1) = 3 := (nI_eq (a := (srt (TT b L q.1))) (b := 3) (by omega) (by omega)).mp (Decidable.not_not.mp h2)
      refine w_blk 1 (pc' := 21) (ls' := [some (.ref 53), some (.int 1), none]) (sk' := [.int 1]) (st' := st) (fun _ h => h) ?_
      refine w_if_eq rfl (fun hno => absurd hno (by decide)) (fun _ => ?_)
      refine w_blk 2 (pc' := 29) (ls' := [some (.ref 53), some (.int 1), none]) (sk' := [.int 1]) (st' := st) (fun _ h => h) ?_
      have htt : TT b L q.1 = 106 := by omega
      rw [show (wm (TT b L q.1)) = 1 from if_pos htt] at hq
      have hok : (decide (TT b L q.1 = 106 ∨ TT b L q.1 = 107)) = true := decide_eq_true (by omega)
      by_cases hf2 : q.2 = true
      · have hF : st.1 53 17 = nI (ps b L q.1) := hQ.2.trans (if_pos hf2)
        rw [opt_st hf2] at hq
        refine w_blk 3 (pc' := 34) (ls' := [some (.ref 53), some (.int 1), some (.int 1)]) (sk' := [.int (st.1 53 17)]) (st' := st) (fun _ h => h) ?_
        rw [hF]
        refine w_blk 1 (pc' := 36) (ls' := [some (.ref 53), some (.int 1), some (.int 1)]) (sk' := [.int (-9), .int (nI (ps b L q.1))]) (st' := st) (fun _ h => h) ?_
        refine w_cmp_ne rfl (fun _ => ?_) (fun hno => absurd (nI9 (by omega)) hno)
        refine w_blk 1 (pc' := 48) (ls' := [some (.ref 53), some (.int 1), some (.int 1)]) (sk' := [.int 1]) (st' := st) (fun _ h => h) ?_
        exact w_iret rfl rfl rfl (hq st ⟨hQ, FF.rf⟩)
      · have hff : q.2 = false := Bool.eq_false_iff.mpr hf2
        have hF : st.1 53 17 = -9 := hQ.2.trans (if_neg hf2)
        refine w_blk 3 (pc' := 34) (ls' := [some (.ref 53), some (.int 1), some (.int 1)]) (sk' := [.int (st.1 53 17)]) (st' := st) (fun _ h => h) ?_
        rw [hF]
        refine w_blk 1 (pc' := 36) (ls' := [some (.ref 53), some (.int 1), some (.int 1)]) (sk' := [.int (-9), .int (-9)]) (st' := st) (fun _ h => h) ?_
        refine w_cmp_ne rfl (fun hno => absurd hno (fun hh => hh rfl)) (fun _ => ?_)
        refine w_blk 1 (pc' := 40) (ls' := [some (.ref 53), some (.int 1), some (.int 1)]) (sk' := [.int 1]) (st' := st) (fun _ h => h) ?_
        refine w_if_le rfl (fun hno => absurd hno (by decide)) (fun _ => ?_)
        refine w_blk 1 (pc' := 44) (ls' := [some (.ref 53), some (.int 1), some (.int 1)]) (sk' := [.ref 53]) (st' := st) (fun _ h => h) ?_
        rw [opt_go hff hok, hff] at hq
        obtain ⟨s1, hc, hk, hf⟩ := m_next (d + 0) L b (nxt b L (ps b L q.1)) st hP hb hL hQ.1.1 (nxt_le hpl)
        refine w_callV (As := [.ref 53]) (rest := []) rfl rfl rfl (Nat.le_of_ble_eq_true rfl) (Nat.le_of_ble_eq_true rfl) (by first | exact Or.inl ⟨rfl, rfl⟩ | exact Or.inr ⟨rfl, rfl⟩) hc ?_
        refine w_blk 1 (pc' := 48) (ls' := [some (.ref 53), some (.int 1), some (.int 1)]) (sk' := [.int 1]) (st' := s1) (fun _ h => h) ?_
        exact w_iret rfl rfl rfl (hq s1 ⟨⟨hk, (hf.2.1 17 (by decide)).trans hF⟩, FF.mono hf (by decide) (by decide)⟩)
  · replace h1 : srt (TT b L q.1) = 4 := (nI_eq (a := (srt (TT b L q.1))) (b := 4) (by omega) (by omega)).mp (Decidable.not_not.mp h1)
    refine w_blk 2 (pc' := 29) (ls' := [some (.ref 53), some (.int 1), none]) (sk' := [.int 2]) (st' := st) (fun _ h => h) ?_
    have htt : TT b L q.1 = 107 := by omega
    rw [show (wm (TT b L q.1)) = 2 from (if_neg (by omega)).trans (if_pos htt)] at hq
    have hok : (decide (TT b L q.1 = 106 ∨ TT b L q.1 = 107)) = true := decide_eq_true (by omega)
    by_cases hf2 : q.2 = true
    · have hF : st.1 53 17 = nI (ps b L q.1) := hQ.2.trans (if_pos hf2)
      rw [opt_st hf2] at hq
      refine w_blk 3 (pc' := 34) (ls' := [some (.ref 53), some (.int 1), some (.int 2)]) (sk' := [.int (st.1 53 17)]) (st' := st) (fun _ h => h) ?_
      rw [hF]
      refine w_blk 1 (pc' := 36) (ls' := [some (.ref 53), some (.int 1), some (.int 2)]) (sk' := [.int (-9), .int (nI (ps b L q.1))]) (st' := st) (fun _ h => h) ?_
      refine w_cmp_ne rfl (fun _ => ?_) (fun hno => absurd (nI9 (by omega)) hno)
      refine w_blk 1 (pc' := 48) (ls' := [some (.ref 53), some (.int 1), some (.int 2)]) (sk' := [.int 2]) (st' := st) (fun _ h => h) ?_
      exact w_iret rfl rfl rfl (hq st ⟨hQ, FF.rf⟩)
    · have hff : q.2 = false := Bool.eq_false_iff.mpr hf2
      have hF : st.1 53 17 = -9 := hQ.2.trans (if_neg hf2)
      refine w_blk 3 (pc' := 34) (ls' := [some (.ref 53), some (.int 1), some (.int 2)]) (sk' := [.int (st.1 53 17)]) (st' := st) (fun _ h => h) ?_
      rw [hF]
      refine w_blk 1 (pc' := 36) (ls' := [some (.ref 53), some (.int 1), some (.int 2)]) (sk' := [.int (-9), .int (-9)]) (st' := st) (fun _ h => h) ?_
      refine w_cmp_ne rfl (fun hno => absurd hno (fun hh => hh rfl)) (fun _ => ?_)
      refine w_blk 1 (pc' := 40) (ls' := [some (.ref 53), some (.int 1), some (.int 2)]) (sk' := [.int 2]) (st' := st) (fun _ h => h) ?_
      refine w_if_le rfl (fun hno => absurd hno (by decide)) (fun _ => ?_)
      refine w_blk 1 (pc' := 44) (ls' := [some (.ref 53), some (.int 1), some (.int 2)]) (sk' := [.ref 53]) (st' := st) (fun _ h => h) ?_
      rw [opt_go hff hok, hff] at hq
      obtain ⟨s1, hc, hk, hf⟩ := m_next (d + 0) L b (nxt b L (ps b L q.1)) st hP hb hL hQ.1.1 (nxt_le hpl)
      refine w_callV (As := [.ref 53]) (rest := []) rfl rfl rfl (Nat.le_of_ble_eq_true rfl) (Nat.le_of_ble_eq_true rfl) (by first | exact Or.inl ⟨rfl, rfl⟩ | exact Or.inr ⟨rfl, rfl⟩) hc ?_
      refine w_blk 1 (pc' := 48) (ls' := [some (.ref 53), some (.int 1), some (.int 2)]) (sk' := [.int 2]) (st' := s1) (fun _ h => h) ?_
      exact w_iret rfl rfl rfl (hq s1 ⟨⟨hk, (hf.2.1 17 (by decide)).trans hF⟩, FF.mono hf (by decide) (by decide)⟩)
