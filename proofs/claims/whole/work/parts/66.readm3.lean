/-! GANG of the model -/
/-- what is being read stands behind what is told -/
def MSc (st : mSt) (n : Nat → Nat) (c : Nat → Nat → Nat) : Prop := st.1 55 1 = nI (n 0) ∧ st.1 59 1 = nI (n 1) ∧ st.1 62 1 = nI (n 2) ∧ (∀ d, d < n 0 → st.1 56 (6 + d) = nI (c 0 d) ∧ st.1 57 (6 + d) = nI (c 1 d) ∧ st.1 58 (6 + d) = nI (c 2 d)) ∧ (∀ s, s < n 1 → st.1 60 (8 + s) = nI (c 3 s) ∧ st.1 61 (8 + s) = nI (c 4 s)) ∧ (∀ y, y < n 2 → st.1 63 (8 + y) = nI (c 5 y) ∧ st.1 64 (8 + y) = nI (c 6 y))
def MRl (st s : mSt) : Prop := s.1 55 0 = st.1 55 0 ∧ s.1 59 0 = st.1 59 0 ∧ s.1 62 0 = st.1 62 0 ∧ (∀ j, j < 6 → s.1 56 j = st.1 56 j ∧ s.1 57 j = st.1 57 j ∧ s.1 58 j = st.1 58 j) ∧ (∀ j, j < 8 → s.1 60 j = st.1 60 j ∧ s.1 61 j = st.1 61 j ∧ s.1 63 j = st.1 63 j ∧ s.1 64 j = st.1 64 j)
theorem MRl.rf {st : mSt} : MRl st st := ⟨rfl, rfl, rfl, fun _ _ => ⟨rfl, rfl, rfl⟩, fun _ _ => ⟨rfl, rfl, rfl, rfl⟩⟩
theorem MRl.trans {a b c : mSt} (h1 : MRl a b) (h2 : MRl b c) : MRl a c := ⟨h2.1.trans h1.1, h2.2.1.trans h1.2.1, h2.2.2.1.trans h1.2.2.1, fun j hj => ⟨(h2.2.2.2.1 j hj).1.trans (h1.2.2.2.1 j hj).1, (h2.2.2.2.1 j hj).2.1.trans (h1.2.2.2.1 j hj).2.1, (h2.2.2.2.1 j hj).2.2.trans (h1.2.2.2.1 j hj).2.2⟩, fun j hj => ⟨(h2.2.2.2.2 j hj).1.trans (h1.2.2.2.2 j hj).1, (h2.2.2.2.2 j hj).2.1.trans (h1.2.2.2.2 j hj).2.1, (h2.2.2.2.2 j hj).2.2.1.trans (h1.2.2.2.2 j hj).2.2.1, (h2.2.2.2.2 j hj).2.2.2.trans (h1.2.2.2.2 j hj).2.2.2⟩⟩
theorem MRl.fr {S : List Nat} {st s : mSt} (h : Fr S st s) (hS : ∀ p, p ∈ [55, 56, 57, 58, 59, 60, 61, 62, 63, 64] → p ∉ S) : MRl st s := by
  have e : ∀ p, p ∈ [55, 56, 57, 58, 59, 60, 61, 62, 63, 64] → s.1 p = st.1 p := fun p hp => h.1 p (hS p hp)
  unfold MRl
  rw [e 55 (by decide), e 56 (by decide), e 57 (by decide), e 58 (by decide), e 59 (by decide), e 60 (by decide), e 61 (by decide), e 62 (by decide), e 63 (by decide), e 64 (by decide)]
  exact MRl.rf
theorem MR_Rl {st s : mSt} {n : Nat → Nat} {c : Nat → Nat → Nat} (h : MRl st s) (hB : CB n c) (hR : MR st n c) : MR s n c := by
  obtain ⟨h0, h1, h2, h3, h4⟩ := h
  obtain ⟨b0, b1, b2, -⟩ := hB
  refine ⟨h0.trans hR.1, h1.trans hR.2.1, h2.trans hR.2.2.1, fun d hd => ?_, fun z hz => ?_, fun y hy => ?_⟩
  · have a := h3 d (by omega)
    have r := hR.2.2.2.1 d hd
    exact ⟨a.1.trans r.1, a.2.1.trans r.2.1, a.2.2.trans r.2.2⟩
  · have a := h4 z (by omega)
    have r := hR.2.2.2.2.1 z hz
    exact ⟨a.1.trans r.1, a.2.1.trans r.2⟩
  · have a := h4 y (by omega)
    have r := hR.2.2.2.2.2 y hy
    exact ⟨a.2.2.1.trans r.1, a.2.2.2.trans r.2⟩
theorem MSc_fr {S : List Nat} {st s : mSt} {n : Nat → Nat} {c : Nat → Nat → Nat} (h : Fr S st s) (hS : ∀ p, p ∈ [55, 56, 57, 58, 59, 60, 61, 62, 63, 64] → p ∉ S) (hm : MSc st n c) : MSc s n c := by
  have e : ∀ p, p ∈ [55, 56, 57, 58, 59, 60, 61, 62, 63, 64] → s.1 p = st.1 p := fun p hp => h.1 p (hS p hp)
  unfold MSc at hm ⊢
  rw [e 55 (by decide), e 56 (by decide), e 57 (by decide), e 58 (by decide), e 59 (by decide), e 60 (by decide), e 61 (by decide), e 62 (by decide), e 63 (by decide), e 64 (by decide)]
  exact hm
theorem up1 {f : Nat → Int32} {k j : Nat} {x : Int32} (h : j ≠ k) : upd f k x j = f j := if_neg h
theorem up0 {f : Nat → Int32} {k : Nat} {x : Int32} : upd f k x k = x := if_pos rfl
theorem sc_D {S : List Nat} {st s : mSt} {n : Nat → Nat} {c : Nat → Nat → Nat} {x y z : Nat} (hf : Fr S st s) (hS : ∀ p, p ∈ [59, 60, 61, 62, 63, 64] → p ∉ S) (hn : n 0 < 6) (h5 : s.1 55 = upd (st.1 55) 1 (nI (n 0 + 1))) (h6 : s.1 56 = upd (st.1 56) (6 + n 0) (nI x)) (h7 : s.1 57 = upd (st.1 57) (6 + n 0) (nI y)) (h8 : s.1 58 = upd (st.1 58) (6 + n 0) (nI z)) : MRl st s ∧ (MSc st n c → MSc s (updN n 0 (n 0 + 1)) (upd2 (upd2 (upd2 c 0 (n 0) x) 1 (n 0) y) 2 (n 0) z)) := by
  have e : ∀ p, p ∈ [59, 60, 61, 62, 63, 64] → s.1 p = st.1 p := fun p hp => hf.1 p (hS p hp)
  refine ⟨?_, fun hm => ?_⟩
  · unfold MRl
    rw [h5, h6, h7, h8, e 59 (by decide), e 60 (by decide), e 61 (by decide), e 62 (by decide), e 63 (by decide), e 64 (by decide)]
    exact ⟨up1 (by decide), rfl, rfl, fun j hj => ⟨up1 (by omega), up1 (by omega), up1 (by omega)⟩, fun j hj => ⟨rfl, rfl, rfl, rfl⟩⟩
  · obtain ⟨m0, m1, m2, m3, m4, m5⟩ := hm
    unfold MSc
    rw [h5, h6, h7, h8, e 59 (by decide), e 60 (by decide), e 61 (by decide), e 62 (by decide), e 63 (by decide), e 64 (by decide)]
    refine ⟨up0, m1, m2, fun d hd => ?_, fun k hk => ?_, fun k hk => ?_⟩
    · have hd2 : d < n 0 + 1 := hd
      by_cases e2 : d = n 0
      · rw [e2]
        exact ⟨up0.trans (congrArg nI ((up2_row (by decide)).trans ((up2_row (by decide)).trans up2_at)).symm), up0.trans (congrArg nI ((up2_row (by decide)).trans up2_at).symm), up0.trans (congrArg nI up2_at.symm)⟩
      · have r := m3 d (by omega)
        have ec : ∀ i, upd2 (upd2 (upd2 c 0 (n 0) x) 1 (n 0) y) 2 (n 0) z i d = c i d := fun i => (up2_col e2).trans ((up2_col e2).trans (up2_col e2))
        rw [ec, ec, ec]
        exact ⟨(up1 (by omega)).trans r.1, (up1 (by omega)).trans r.2.1, (up1 (by omega)).trans r.2.2⟩
    · have r := m4 k hk
      rw [show upd2 (upd2 (upd2 c 0 (n 0) x) 1 (n 0) y) 2 (n 0) z 3 k = c 3 k from (up2_row (by decide)).trans ((up2_row (by decide)).trans (up2_row (by decide))), show upd2 (upd2 (upd2 c 0 (n 0) x) 1 (n 0) y) 2 (n 0) z 4 k = c 4 k from (up2_row (by decide)).trans ((up2_row (by decide)).trans (up2_row (by decide)))]
      exact r
    · have r := m5 k hk
      rw [show upd2 (upd2 (upd2 c 0 (n 0) x) 1 (n 0) y) 2 (n 0) z 5 k = c 5 k from (up2_row (by decide)).trans ((up2_row (by decide)).trans (up2_row (by decide))), show upd2 (upd2 (upd2 c 0 (n 0) x) 1 (n 0) y) 2 (n 0) z 6 k = c 6 k from (up2_row (by decide)).trans ((up2_row (by decide)).trans (up2_row (by decide)))]
      exact r
theorem sc_S {S : List Nat} {st s : mSt} {n : Nat → Nat} {c : Nat → Nat → Nat} {x y : Nat} (hf : Fr S st s) (hS : ∀ p, p ∈ [55, 56, 57, 58, 62, 63, 64] → p ∉ S) (hn : n 1 < 8) (h5 : s.1 59 = upd (st.1 59) 1 (nI (n 1 + 1))) (h6 : s.1 60 = upd (st.1 60) (8 + n 1) (nI x)) (h7 : s.1 61 = upd (st.1 61) (8 + n 1) (nI y)) : MRl st s ∧ (MSc st n c → MSc s (updN n 1 (n 1 + 1)) (upd2 (upd2 c 3 (n 1) x) 4 (n 1) y)) := by
  have e : ∀ p, p ∈ [55, 56, 57, 58, 62, 63, 64] → s.1 p = st.1 p := fun p hp => hf.1 p (hS p hp)
  refine ⟨?_, fun hm => ?_⟩
  · unfold MRl
    rw [h5, h6, h7, e 55 (by decide), e 56 (by decide), e 57 (by decide), e 58 (by decide), e 62 (by decide), e 63 (by decide), e 64 (by decide)]
    exact ⟨rfl, up1 (by decide), rfl, fun j hj => ⟨rfl, rfl, rfl⟩, fun j hj => ⟨up1 (by omega), up1 (by omega), rfl, rfl⟩⟩
  · obtain ⟨m0, m1, m2, m3, m4, m5⟩ := hm
    unfold MSc
    rw [h5, h6, h7, e 55 (by decide), e 56 (by decide), e 57 (by decide), e 58 (by decide), e 62 (by decide), e 63 (by decide), e 64 (by decide)]
    refine ⟨m0, up0, m2, fun d hd => ?_, fun k hk => ?_, fun k hk => ?_⟩
    · have r := m3 d hd
      have ec : ∀ i, i < 3 → upd2 (upd2 c 3 (n 1) x) 4 (n 1) y i d = c i d := fun i hi => (up2_row (by omega)).trans (up2_row (by omega))
      rw [ec 0 (by decide), ec 1 (by decide), ec 2 (by decide)]
      exact r
    · have hd2 : k < n 1 + 1 := hk
      by_cases e2 : k = n 1
      · rw [e2]
        exact ⟨up0.trans (congrArg nI ((up2_row (by decide)).trans up2_at).symm), up0.trans (congrArg nI up2_at.symm)⟩
      · have r := m4 k (by omega)
        have ec : ∀ i, upd2 (upd2 c 3 (n 1) x) 4 (n 1) y i k = c i k := fun i => (up2_col e2).trans (up2_col e2)
        rw [ec, ec]
        exact ⟨(up1 (by omega)).trans r.1, (up1 (by omega)).trans r.2⟩
    · have r := m5 k hk
      have ec : ∀ i, 5 ≤ i → upd2 (upd2 c 3 (n 1) x) 4 (n 1) y i k = c i k := fun i hi => (up2_row (by omega)).trans (up2_row (by omega))
      rw [ec 5 (by decide), ec 6 (by decide)]
      exact r
theorem sc_Y {S : List Nat} {st s : mSt} {n : Nat → Nat} {c : Nat → Nat → Nat} {x y : Nat} (hf : Fr S st s) (hS : ∀ p, p ∈ [55, 56, 57, 58, 59, 60, 61] → p ∉ S) (hn : n 2 < 8) (h5 : s.1 62 = upd (st.1 62) 1 (nI (n 2 + 1))) (h6 : s.1 63 = upd (st.1 63) (8 + n 2) (nI x)) (h7 : s.1 64 = upd (st.1 64) (8 + n 2) (nI y)) : MRl st s ∧ (MSc st n c → MSc s (updN n 2 (n 2 + 1)) (upd2 (upd2 c 5 (n 2) x) 6 (n 2) y)) := by
  have e : ∀ p, p ∈ [55, 56, 57, 58, 59, 60, 61] → s.1 p = st.1 p := fun p hp => hf.1 p (hS p hp)
  refine ⟨?_, fun hm => ?_⟩
  · unfold MRl
    rw [h5, h6, h7, e 55 (by decide), e 56 (by decide), e 57 (by decide), e 58 (by decide), e 59 (by decide), e 60 (by decide), e 61 (by decide)]
    exact ⟨rfl, rfl, up1 (by decide), fun j hj => ⟨rfl, rfl, rfl⟩, fun j hj => ⟨rfl, rfl, up1 (by omega), up1 (by omega)⟩⟩
  · obtain ⟨m0, m1, m2, m3, m4, m5⟩ := hm
    unfold MSc
    rw [h5, h6, h7, e 55 (by decide), e 56 (by decide), e 57 (by decide), e 58 (by decide), e 59 (by decide), e 60 (by decide), e 61 (by decide)]
    refine ⟨m0, m1, up0, fun d hd => ?_, fun k hk => ?_, fun k hk => ?_⟩
    · have r := m3 d hd
      have ec : ∀ i, i < 5 → upd2 (upd2 c 5 (n 2) x) 6 (n 2) y i d = c i d := fun i hi => (up2_row (by omega)).trans (up2_row (by omega))
      rw [ec 0 (by decide), ec 1 (by decide), ec 2 (by decide)]
      exact r
    · have r := m4 k hk
      have ec : ∀ i, i < 5 → upd2 (upd2 c 5 (n 2) x) 6 (n 2) y i k = c i k := fun i hi => (up2_row (by omega)).trans (up2_row (by omega))
      rw [ec 3 (by decide), ec 4 (by decide)]
      exact r
    · have hd2 : k < n 2 + 1 := hk
      by_cases e2 : k = n 2
      · rw [e2]
        exact ⟨up0.trans (congrArg nI ((up2_row (by decide)).trans up2_at).symm), up0.trans (congrArg nI up2_at.symm)⟩
      · have r := m5 k (by omega)
        have ec : ∀ i, upd2 (upd2 c 5 (n 2) x) 6 (n 2) y i k = c i k := fun i => (up2_col e2).trans (up2_col e2)
        rw [ec, ec]
        exact ⟨(up1 (by omega)).trans r.1, (up1 (by omega)).trans r.2⟩
theorem itm_pD {T : Nat → Nat} {q : RQ} (h : T q.p.1 = 103) : (itm T q).p = dg5 T q := by
  rw [show itm T q = iD T q from if_pos h]
  unfold iD
  split <;> rfl
theorem itm_pS {T : Nat → Nat} {q : RQ} (h : T q.p.1 = 104) : (itm T q).p = sd4 T q := by
  rw [show itm T q = iS T q from (if_neg (by omega)).trans (if_pos h)]
  unfold iS
  split <;> rfl
theorem itm_pY {T : Nat → Nat} {q : RQ} (h : T q.p.1 = 105) : (itm T q).p = yd4 T q := by
  rw [show itm T q = iY T q from (if_neg (by omega)).trans ((if_neg (by omega)).trans (if_pos h))]
  unfold iY
  split <;> rfl
theorem itm_pN {T : Nat → Nat} {q : RQ} (h : T q.p.1 ≠ 103 ∧ T q.p.1 ≠ 104 ∧ T q.p.1 ≠ 105) : (itm T q).p = (q.p.1, true) := congrArg Prod.fst ((if_neg h.1).trans ((if_neg h.2.1).trans (if_neg h.2.2)))
theorem itm_D {T : Nat → Nat} {q : RQ} (h : T q.p.1 = 103) (hf : (dg5 T q).2 = false) : (itm T q).n = updN q.n 0 (q.n 0 + 1) ∧ (itm T q).c = dgC T q := by
  rw [show itm T q = iD T q from if_pos h, show iD T q = _ from if_neg (by rw [hf]; decide)]
  exact ⟨rfl, rfl⟩
theorem itm_S {T : Nat → Nat} {q : RQ} (h : T q.p.1 = 104) (hf : (sd4 T q).2 = false) : (itm T q).n = updN q.n 1 (q.n 1 + 1) ∧ (itm T q).c = sdC T q := by
  rw [show itm T q = iS T q from (if_neg (by omega)).trans (if_pos h), show iS T q = _ from if_neg (by rw [hf]; decide)]
  exact ⟨rfl, rfl⟩
theorem itm_Y {T : Nat → Nat} {q : RQ} (h : T q.p.1 = 105) (hf : (yd4 T q).2 = false) : (itm T q).n = updN q.n 2 (q.n 2 + 1) ∧ (itm T q).c = ydC T q := by
  rw [show itm T q = iY T q from (if_neg (by omega)).trans ((if_neg (by omega)).trans (if_pos h)), show iY T q = _ from if_neg (by rw [hf]; decide)]
  exact ⟨rfl, rfl⟩
theorem dg5_st {T : Nat → Nat} {q : RQ} (h : (dg1 q).2 = true) : dg5 T q = dg1 q := by
  have e2 : dg2 T q = dg1 q := adv_st h
  have e3 : dg3 T q = dg1 q := (adv_st (by rw [e2]; exact h)).trans e2
  have e4 : dg4 T q = dg1 q := (opt_st (by rw [e3]; exact h)).trans e3
  exact (adv_st (by rw [e4]; exact h)).trans e4
theorem sd4_st {T : Nat → Nat} {q : RQ} (h : (sd1 q).2 = true) : sd4 T q = sd1 q := by
  have e2 : sd2 T q = sd1 q := adv_st h
  have e3 : sd3 T q = sd1 q := (opt_st (by rw [e2]; exact h)).trans e2
  exact (adv_st (by rw [e3]; exact h)).trans e3
theorem yd4_st {T : Nat → Nat} {q : RQ} (h : (yd1 q).2 = true) : yd4 T q = yd1 q := by
  have e2 : yd2 T q = yd1 q := adv_st h
  have e3 : yd3 T q = yd1 q := (adv_st (by rw [e2]; exact h)).trans e2
  exact (adv_st (by rw [e3]; exact h)).trans e3
set_option maxHeartbeats 4000000 in
set_option maxRecDepth 20000 in
/-- readItem() -/
theorem m_readItemD (d : Nat) (L : Nat) (b : Nat → Nat) (q : RQ) (st : mSt) (hP : MS st L b) (hb : ∀ j, j < L → b j < 256) (hL : L ≤ 300) (hQ : MQu st b L q.p) (hqf : q.p.2 = false) (hN : st.1 55 1 = nI (q.n 0) ∧ st.1 59 1 = nI (q.n 1) ∧ st.1 62 1 = nI (q.n 2)) (hB : CB q.n q.c) (eD : TT b L q.p.1 = 103) : ∃ (s : mSt), mMC mT (d + 5) 139 [.ref 53] st (none) s ∧ MQu s b L (itm (TT b L) q).p ∧ ((itm (TT b L) q).p.2 = false → MSc st q.n q.c → MSc s (itm (TT b L) q).n (itm (TT b L) q).c) ∧ MRl st s ∧ FF [53, 55, 56, 57, 58, 59, 60, 61, 62, 63, 64] [13, 14, 15, 16, 17] st s := by
  suffices H : ∀ Q : Option Value → mSt → Prop, (∀ (s : mSt), (MQu s b L (itm (TT b L) q).p ∧ ((itm (TT b L) q).p.2 = false → MSc st q.n q.c → MSc s (itm (TT b L) q).n (itm (TT b L) q).c) ∧ MRl st s ∧ FF [53, 55, 56, 57, 58, 59, 60, 61, 62, 63, 64] [13, 14, 15, 16, 17] st s) → Q (none) s) → mW (mMC mT (d + 4)) (0, fun _ => 0) (mAtL P_X10_readItem) none Q 0 [some (.ref 53), none, none] [] st by
    obtain ⟨_, _, ⟨s, rfl, rfl, hp⟩, hw⟩ := mW_ex (H (fun vv tt => ∃ (s : mSt),  vv = none ∧ s = tt ∧ MQu s b L (itm (TT b L) q).p ∧ ((itm (TT b L) q).p.2 = false → MSc st q.n q.c → MSc s (itm (TT b L) q).n (itm (TT b L) q).c) ∧ MRl st s ∧ FF [53, 55, 56, 57, 58, 59, 60, 61, 62, 63, 64] [13, 14, 15, 16, 17] st s) (fun s hp => ⟨s, rfl, rfl, hp⟩))
    exact ⟨s, mI_X10_readItem (d := d + 4) (Nat.le_of_ble_eq_true rfl) hw, hp⟩
  intro Q hq
  obtain ⟨hb0, hb1, hb2, -⟩ := id hB
  have hpl := ps_le b L q.p.1
  obtain ⟨w0, hV, -⟩ := hQ.1.2.2.2
  have hT := TT_r b L q.p.1
  have hs8 := srt_le hT.1
  have hsr : st.1 53 15 = nI (srt (TT b L q.p.1)) := hQ.1.2.2.1
  have hsr2 : st.1 53 15 = 0 := by rw [hsr, eD]; rfl
  refine w_blk 2 (pc' := 4) (ls' := [some (.ref 53), none, none]) (sk' := [.int (st.1 53 15)]) (st' := st) (fun _ h => h) ?_
  rw [hsr2]
  refine w_blk 3 (pc' := 7) (ls' := [some (.ref 53), some (.int 0), none]) (sk' := [.int 0, .ref 53]) (st' := st) (fun _ h => h) ?_
  refine w_if_ne rfl (fun hno => absurd hno (by decide)) (fun _ => ?_)
  refine w_blk 3 (pc' := 15) (ls' := [some (.ref 53), some (.int 0), none]) (sk' := [.int 1, .ref 55, .ref 53]) (st' := st) (fun _ h => h) ?_
  refine w_iald rfl rfl (vp_in_nI (n := 1) (N := 2) (by decide) (by decide)) ?_
  rw [show Int32.toNatClampNeg (1 : Int32) = 1 from rfl]
  rw [hN.1]
  refine w_blk 1 (pc' := 18) (ls' := [some (.ref 53), some (.int 0), none]) (sk' := [.int 6, .int (nI (q.n 0)), .ref 53]) (st' := st) (fun _ h => h) ?_
  refine w_cmp_lt rfl (fun h1 => ?_) (fun h1 => ?_)
  · replace h1 : q.n 0 < 6 := (nI_ltI (a := (q.n 0)) (b := 6) (by omega) (by omega)).mp h1
    refine w_blk 2 (pc' := 58) (ls' := [some (.ref 53), some (.int 0), none]) (sk' := [.int 1, .ref 53]) (st' := st) (fun _ h => h) ?_
    have hnl : q.n 0 < 6 := by omega
    have hok : (decide (q.n 0 < 6)) = true := decide_eq_true hnl
    obtain ⟨s1, hc_2, hQ_3, hf_4⟩ := m_due (d + 1) L b q.p (decide (q.n 0 < 6)) 1 w0 st (MS_ff (FF.rf : FF [53] [13] st st) (by decide) (by decide) hP) hb hL hQ hV (by rw [hok]; rfl)
    refine w_callV (As := [.ref 53, .int 1]) (rest := []) rfl rfl rfl (Nat.le_of_ble_eq_true rfl) (Nat.le_of_ble_eq_true rfl) (by first | exact Or.inl ⟨rfl, rfl⟩ | exact Or.inr ⟨rfl, rfl⟩) hc_2 ?_
    have hix : 6 + (q.n 0) < 12 := by omega
    have hic : 6 + (q.n 0) < 2 ^ 31 := by omega
    have hd1 : dg1 q = (q.p.1 + 1, false) := adv_go hqf hok
    replace hQ_3 : MQu s1 b L (dg1 q) := hQ_3
    have hfl : s1.1 53 17 = -9 := hQ_3.2.trans (if_neg (by rw [hd1]; exact Bool.false_ne_true))
    have hF_5 : FF [53, 55, 56, 57, 58] [13, 14, 15, 16, 17] st s1 := FF.trans (FF.rf : FF [53, 55, 56, 57, 58] [13, 14, 15, 16, 17] st st) (FF.mono hf_4 (by decide) (by decide))
    have r56_6 : s1.1 56 = st.1 56 := hf_4.1.1 56 (by decide)
    have r57_7 : s1.1 57 = st.1 57 := hf_4.1.1 57 (by decide)
    have r58_8 : s1.1 58 = st.1 58 := hf_4.1.1 58 (by decide)
    have r55_9 : s1.1 55 = st.1 55 := hf_4.1.1 55 (by decide)
    refine w_blk 3 (pc' := 66) (ls' := [some (.ref 53), some (.int 0), none]) (sk' := [.int (s1.1 53 17)]) (st' := s1) (fun _ h => h) ?_
    rw [hfl]
    refine w_blk 1 (pc' := 68) (ls' := [some (.ref 53), some (.int 0), none]) (sk' := [.int (-9), .int (-9)]) (st' := s1) (fun _ h => h) ?_
    refine w_cmp_eq rfl (fun _ => ?_) (fun hno => absurd rfl hno)
    refine w_blk 1 (pc' := 73) (ls' := [some (.ref 53), some (.int 0), none]) (sk' := [.int 0]) (st' := s1) (fun _ h => h) ?_
    refine w_if_ne rfl (fun hno => absurd hno (by decide)) (fun _ => ?_)
    refine w_blk 4 (pc' := 83) (ls' := [some (.ref 53), some (.int 0), none]) (sk' := [.int 1, .ref 55, .int 6]) (st' := s1) (fun _ h => h) ?_
    refine w_iald rfl rfl (vp_in_nI (n := 1) (N := 2) (by decide) (by decide)) ?_
    rw [show Int32.toNatClampNeg (1 : Int32) = 1 from rfl]
    rw [(congrFun r55_9 1).trans hN.1]
    refine w_blk 1 (pc' := 85) (ls' := [some (.ref 53), some (.int 0), none]) (sk' := [.int (6 + (nI (q.n 0)))]) (st' := s1) (fun _ h => h) ?_
    rw [show (6 + (nI (q.n 0))) = nI (6 + (q.n 0)) from nI_add 6 (q.n 0)]
    refine w_blk 7 (pc' := 95) (ls' := [some (.ref 53), some (.int 0), some (.int (nI (6 + (q.n 0))))]) (sk' := [.int 9, .int 1, .ref 53, .int (nI (6 + (q.n 0))), .ref 56]) (st' := s1) (fun _ h => h) ?_
    obtain ⟨w14, s10, hc_11, hQ_12, hw_15, hf_13⟩ := m_number9 (d + 0) L b (dg1 q) s1 (MS_ff hF_5 (by decide) (by decide) hP) hb hL hQ_3
    refine w_callV (As := [.ref 53, .int 1, .int 9]) (rest := [.int (nI (6 + (q.n 0))), .ref 56]) rfl rfl rfl (Nat.le_of_ble_eq_true rfl) (Nat.le_of_ble_eq_true rfl) (by first | exact Or.inl ⟨rfl, rfl⟩ | exact Or.inr ⟨rfl, rfl⟩) hc_11 ?_
    replace hQ_12 : MQu s10 b L (dg2 (TT b L) q) := hQ_12
    have hF_16 : FF [53, 55, 56, 57, 58] [13, 14, 15, 16, 17] st s10 := FF.trans hF_5 (FF.mono hf_13 (by decide) (by decide))
    have r56_17 : s10.1 56 = st.1 56 := (hf_13.1.1 56 (by decide)).trans r56_6
    have r57_18 : s10.1 57 = st.1 57 := (hf_13.1.1 57 (by decide)).trans r57_7
    have r58_19 : s10.1 58 = st.1 58 := (hf_13.1.1 58 (by decide)).trans r58_8
    have r55_20 : s10.1 55 = st.1 55 := (hf_13.1.1 55 (by decide)).trans r55_9
    refine w_iast rfl rfl (vp_in_nI (n := (6 + (q.n 0))) (N := 12) hix (by decide)) ?_
    rw [nI_clamp (show (6 + (q.n 0)) < 2 ^ 31 from hic)]
    have hF_22 : FF [53, 55, 56, 57, 58] [13, 14, 15, 16, 17] st ((mU s10.1 56 (6 + (q.n 0)) (nI w14)), s10.2) := (FF.wr hF_16 (by decide) (by decide))
    have hr56__23 : (((mU s10.1 56 (6 + (q.n 0)) (nI w14)), s10.2)).1 56 = upd (st.1 56) (6 + (q.n 0)) (nI w14) := (mU_eq.trans (congrArg (fun f => upd f (6 + (q.n 0)) (nI w14)) r56_17))
    have hr57__24 : (((mU s10.1 56 (6 + (q.n 0)) (nI w14)), s10.2)).1 57 = st.1 57 := r57_18
    have hr58__25 : (((mU s10.1 56 (6 + (q.n 0)) (nI w14)), s10.2)).1 58 = st.1 58 := r58_19
    have hr55__26 : (((mU s10.1 56 (6 + (q.n 0)) (nI w14)), s10.2)).1 55 = st.1 55 := r55_20
    have hQ_27 : (((mU s10.1 56 (6 + (q.n 0)) (nI w14)), s10.2)).1 53 = s10.1 53 := rfl
    generalize ((mU s10.1 56 (6 + (q.n 0)) (nI w14)), s10.2) = s21 at hF_22 hr56__23 hr57__24 hr58__25 hr55__26 hQ_27 ⊢
    have hQ_28 := MQu_e hQ_27 hQ_12
    refine w_blk 6 (pc' := 108) (ls' := [some (.ref 53), some (.int 0), some (.int (nI (6 + (q.n 0))))]) (sk' := [.int 9, .int 1, .ref 53, .int (nI (6 + (q.n 0))), .ref 57]) (st' := s21) (fun _ h => h) ?_
    obtain ⟨w33, s29, hc_30, hQ_31, hw_34, hf_32⟩ := m_number9 (d + 0) L b (dg2 (TT b L) q) s21 (MS_ff hF_22 (by decide) (by decide) hP) hb hL hQ_28
    refine w_callV (As := [.ref 53, .int 1, .int 9]) (rest := [.int (nI (6 + (q.n 0))), .ref 57]) rfl rfl rfl (Nat.le_of_ble_eq_true rfl) (Nat.le_of_ble_eq_true rfl) (by first | exact Or.inl ⟨rfl, rfl⟩ | exact Or.inr ⟨rfl, rfl⟩) hc_30 ?_
    replace hQ_31 : MQu s29 b L (dg3 (TT b L) q) := hQ_31
    have hF_35 : FF [53, 55, 56, 57, 58] [13, 14, 15, 16, 17] st s29 := FF.trans hF_22 (FF.mono hf_32 (by decide) (by decide))
    have r56_36 : s29.1 56 = upd (st.1 56) (6 + (q.n 0)) (nI w14) := (hf_32.1.1 56 (by decide)).trans hr56__23
    have r57_37 : s29.1 57 = st.1 57 := (hf_32.1.1 57 (by decide)).trans hr57__24
    have r58_38 : s29.1 58 = st.1 58 := (hf_32.1.1 58 (by decide)).trans hr58__25
    have r55_39 : s29.1 55 = st.1 55 := (hf_32.1.1 55 (by decide)).trans hr55__26
    refine w_iast rfl rfl (vp_in_nI (n := (6 + (q.n 0))) (N := 12) hix (by decide)) ?_
    rw [nI_clamp (show (6 + (q.n 0)) < 2 ^ 31 from hic)]
    have hF_41 : FF [53, 55, 56, 57, 58] [13, 14, 15, 16, 17] st ((mU s29.1 57 (6 + (q.n 0)) (nI w33)), s29.2) := (FF.wr hF_35 (by decide) (by decide))
    have hr56__42 : (((mU s29.1 57 (6 + (q.n 0)) (nI w33)), s29.2)).1 56 = upd (st.1 56) (6 + (q.n 0)) (nI w14) := r56_36
    have hr57__43 : (((mU s29.1 57 (6 + (q.n 0)) (nI w33)), s29.2)).1 57 = upd (st.1 57) (6 + (q.n 0)) (nI w33) := (mU_eq.trans (congrArg (fun f => upd f (6 + (q.n 0)) (nI w33)) r57_37))
    have hr58__44 : (((mU s29.1 57 (6 + (q.n 0)) (nI w33)), s29.2)).1 58 = st.1 58 := r58_38
    have hr55__45 : (((mU s29.1 57 (6 + (q.n 0)) (nI w33)), s29.2)).1 55 = st.1 55 := r55_39
    have hQ_46 : (((mU s29.1 57 (6 + (q.n 0)) (nI w33)), s29.2)).1 53 = s29.1 53 := rfl
    generalize ((mU s29.1 57 (6 + (q.n 0)) (nI w33)), s29.2) = s40 at hF_41 hr56__42 hr57__43 hr58__44 hr55__45 hQ_46 ⊢
    have hQ_47 := MQu_e hQ_46 hQ_31
    refine w_blk 5 (pc' := 119) (ls' := [some (.ref 53), some (.int 0), some (.int (nI (6 + (q.n 0))))]) (sk' := [.int 0, .ref 53, .int (nI (6 + (q.n 0))), .ref 58]) (st' := s40) (fun _ h => h) ?_
    obtain ⟨s48, hc_49, hQ_50, hf_51⟩ := m_side0 (d + 1) L b (dg3 (TT b L) q) s40 (MS_ff hF_41 (by decide) (by decide) hP) hb hL hQ_47
    refine w_callV (As := [.ref 53, .int 0]) (rest := [.int (nI (6 + (q.n 0))), .ref 58]) rfl rfl rfl (Nat.le_of_ble_eq_true rfl) (Nat.le_of_ble_eq_true rfl) (by first | exact Or.inl ⟨rfl, rfl⟩ | exact Or.inr ⟨rfl, rfl⟩) hc_49 ?_
    replace hQ_50 : MQu s48 b L (dg4 (TT b L) q) := hQ_50
    have hF_52 : FF [53, 55, 56, 57, 58] [13, 14, 15, 16, 17] st s48 := FF.trans hF_41 (FF.mono hf_51 (by decide) (by decide))
    have r56_53 : s48.1 56 = upd (st.1 56) (6 + (q.n 0)) (nI w14) := (hf_51.1.1 56 (by decide)).trans hr56__42
    have r57_54 : s48.1 57 = upd (st.1 57) (6 + (q.n 0)) (nI w33) := (hf_51.1.1 57 (by decide)).trans hr57__43
    have r58_55 : s48.1 58 = st.1 58 := (hf_51.1.1 58 (by decide)).trans hr58__44
    have r55_56 : s48.1 55 = st.1 55 := (hf_51.1.1 55 (by decide)).trans hr55__45
    refine w_blk 1 (pc' := 123) (ls' := [some (.ref 53), some (.int 0), some (.int (nI (6 + (q.n 0))))]) (sk' := [.int 2, .int (nI (if TT b L (dg3 (TT b L) q).1 = 107 then 2 else 0)), .int (nI (6 + (q.n 0))), .ref 58]) (st' := s48) (fun _ h => h) ?_
    have e27 : nI (if TT b L (dg3 (TT b L) q).1 = 107 then 2 else 0) = 2 ↔ TT b L (dg3 (TT b L) q).1 = 107 := by split <;> simp_all <;> decide
    refine w_cmp_ne rfl (fun h9 => ?_) (fun h9 => ?_)
    · refine w_blk 1 (pc' := 131) (ls' := [some (.ref 53), some (.int 0), some (.int (nI (6 + (q.n 0))))]) (sk' := [.int 0, .int (nI (6 + (q.n 0))), .ref 58]) (st' := s48) (fun _ h => h) ?_
      have e28 : (if TT b L (dg3 (TT b L) q).1 = 107 then 1 else 0) = 0 := if_neg (fun e => h9 (e27.mpr e))
      show mW (mMC mT (d + 4)) (0, fun _ => 0) (mAtL P_X10_readItem) none Q 131 [some (.ref 53), some (.int 0), some (.int (nI (6 + (q.n 0))))] [.int (nI 0), .int (nI (6 + (q.n 0))), .ref 58] s48
      refine w_iast rfl rfl (vp_in_nI (n := (6 + (q.n 0))) (N := 12) hix (by decide)) ?_
      rw [nI_clamp (show (6 + (q.n 0)) < 2 ^ 31 from hic)]
      have hF_58 : FF [53, 55, 56, 57, 58] [13, 14, 15, 16, 17] st ((mU s48.1 58 (6 + (q.n 0)) (nI 0)), s48.2) := (FF.wr hF_52 (by decide) (by decide))
      have hr56__59 : (((mU s48.1 58 (6 + (q.n 0)) (nI 0)), s48.2)).1 56 = upd (st.1 56) (6 + (q.n 0)) (nI w14) := r56_53
      have hr57__60 : (((mU s48.1 58 (6 + (q.n 0)) (nI 0)), s48.2)).1 57 = upd (st.1 57) (6 + (q.n 0)) (nI w33) := r57_54
      have hr58__61 : (((mU s48.1 58 (6 + (q.n 0)) (nI 0)), s48.2)).1 58 = upd (st.1 58) (6 + (q.n 0)) (nI 0) := (mU_eq.trans (congrArg (fun f => upd f (6 + (q.n 0)) (nI 0)) r58_55))
      have hr55__62 : (((mU s48.1 58 (6 + (q.n 0)) (nI 0)), s48.2)).1 55 = st.1 55 := r55_56
      have hQ_63 : (((mU s48.1 58 (6 + (q.n 0)) (nI 0)), s48.2)).1 53 = s48.1 53 := rfl
      generalize ((mU s48.1 58 (6 + (q.n 0)) (nI 0)), s48.2) = s57 at hF_58 hr56__59 hr57__60 hr58__61 hr55__62 hQ_63 ⊢
      have hQ_64 := MQu_e hQ_63 hQ_50
      refine w_blk 4 (pc' := 138) (ls' := [some (.ref 53), some (.int 0), some (.int (nI (6 + (q.n 0))))]) (sk' := [.int 1, .ref 55, .int 1, .ref 55]) (st' := s57) (fun _ h => h) ?_
      refine w_iald rfl rfl (vp_in_nI (n := 1) (N := 2) (by decide) (by decide)) ?_
      rw [show Int32.toNatClampNeg (1 : Int32) = 1 from rfl]
      rw [(congrFun hr55__62 1).trans hN.1]
      refine w_blk 2 (pc' := 141) (ls' := [some (.ref 53), some (.int 0), some (.int (nI (6 + (q.n 0))))]) (sk' := [.int ((nI (q.n 0)) + 1), .int 1, .ref 55]) (st' := s57) (fun _ h => h) ?_
      rw [show ((nI (q.n 0)) + 1) = nI ((q.n 0) + 1) from nI_add (q.n 0) 1]
      refine w_iast rfl rfl (vp_in_nI (n := 1) (N := 2) (by decide) (by decide)) ?_
      rw [show Int32.toNatClampNeg (1 : Int32) = 1 from rfl]
      have hF_66 : FF [53, 55, 56, 57, 58] [13, 14, 15, 16, 17] st ((mU s57.1 55 1 (nI ((q.n 0) + 1))), s57.2) := (FF.wr hF_58 (by decide) (by decide))
      have hr56__67 : (((mU s57.1 55 1 (nI ((q.n 0) + 1))), s57.2)).1 56 = upd (st.1 56) (6 + (q.n 0)) (nI w14) := hr56__59
      have hr57__68 : (((mU s57.1 55 1 (nI ((q.n 0) + 1))), s57.2)).1 57 = upd (st.1 57) (6 + (q.n 0)) (nI w33) := hr57__60
      have hr58__69 : (((mU s57.1 55 1 (nI ((q.n 0) + 1))), s57.2)).1 58 = upd (st.1 58) (6 + (q.n 0)) (nI 0) := hr58__61
      have hr55__70 : (((mU s57.1 55 1 (nI ((q.n 0) + 1))), s57.2)).1 55 = upd (st.1 55) 1 (nI ((q.n 0) + 1)) := (mU_eq.trans (congrArg (fun f => upd f 1 (nI ((q.n 0) + 1))) hr55__62))
      have hQ_71 : (((mU s57.1 55 1 (nI ((q.n 0) + 1))), s57.2)).1 53 = s57.1 53 := rfl
      generalize ((mU s57.1 55 1 (nI ((q.n 0) + 1))), s57.2) = s65 at hF_66 hr56__67 hr57__68 hr58__69 hr55__70 hQ_71 ⊢
      have hQ_72 := MQu_e hQ_71 hQ_64
      have hT9 := TT_r b L (dg4 (TT b L) q).1
      have hk7 := srt_7 hT9.1
      have hs9 := srt_le hT9.1
      have hsr9 : s65.1 53 15 = nI (srt (TT b L (dg4 (TT b L) q).1)) := hQ_72.1.2.2.1
      obtain ⟨w9, hV9, -⟩ := hQ_72.1.2.2.2
      refine w_blk 4 (pc' := 248) (ls' := [some (.ref 53), some (.int 0), some (.int (nI (6 + (q.n 0))))]) (sk' := [.int (s65.1 53 15), .ref 53]) (st' := s65) (fun _ h => h) ?_
      rw [hsr9]
      refine w_blk 1 (pc' := 250) (ls' := [some (.ref 53), some (.int 0), some (.int (nI (6 + (q.n 0))))]) (sk' := [.int 7, .int (nI (srt (TT b L (dg4 (TT b L) q).1))), .ref 53]) (st' := s65) (fun _ h => h) ?_
      refine w_cmp_ne rfl (fun h8 => ?_) (fun h8 => ?_)
      · replace h8 : ¬ (srt (TT b L (dg4 (TT b L) q).1) = 7) := fun hh => h8 ((nI_eq (a := (srt (TT b L (dg4 (TT b L) q).1))) (b := 7) (by omega) (by omega)).mpr hh)
        refine w_blk 1 (pc' := 258) (ls' := [some (.ref 53), some (.int 0), some (.int (nI (6 + (q.n 0))))]) (sk' := [.int 0, .ref 53]) (st' := s65) (fun _ h => h) ?_
        have hok9 : (decide (TT b L (dg4 (TT b L) q).1 = 102)) = false := decide_eq_false (by omega)
        obtain ⟨s73, hc_74, hQ_75, hf_76⟩ := m_due (d + 1) L b (dg4 (TT b L) q) (decide (TT b L (dg4 (TT b L) q).1 = 102)) 0 w9 s65 (MS_ff hF_66 (by decide) (by decide) hP) hb hL hQ_72 hV9 (by rw [hok9]; rfl)
        refine w_callV (As := [.ref 53, .int 0]) (rest := []) rfl rfl rfl (Nat.le_of_ble_eq_true rfl) (Nat.le_of_ble_eq_true rfl) (by first | exact Or.inl ⟨rfl, rfl⟩ | exact Or.inr ⟨rfl, rfl⟩) hc_74 ?_
        replace hQ_75 : MQu s73 b L (dg5 (TT b L) q) := hQ_75
        have hF_77 : FF [53, 55, 56, 57, 58] [13, 14, 15, 16, 17] st s73 := FF.trans hF_66 (FF.mono hf_76 (by decide) (by decide))
        refine w_blk 1 (pc' := 262) (ls' := [some (.ref 53), some (.int 0), some (.int (nI (6 + (q.n 0))))]) (sk' := []) (st' := s73) (fun _ h => h) ?_
        have r56_78 : s73.1 56 = upd (st.1 56) (6 + (q.n 0)) (nI w14) := (hf_76.1.1 56 (by decide)).trans hr56__67
        have r57_79 : s73.1 57 = upd (st.1 57) (6 + (q.n 0)) (nI w33) := (hf_76.1.1 57 (by decide)).trans hr57__68
        have r58_80 : s73.1 58 = upd (st.1 58) (6 + (q.n 0)) (nI 0) := (hf_76.1.1 58 (by decide)).trans hr58__69
        have r55_81 : s73.1 55 = upd (st.1 55) 1 (nI ((q.n 0) + 1)) := (hf_76.1.1 55 (by decide)).trans hr55__70
        have hsc := sc_D (c := q.c) hF_77.1 (by decide) hnl r55_81 r56_78 r57_79 r58_80
        refine w_vret rfl rfl (hq s73 ⟨by rw [itm_pD eD]; exact hQ_75, fun h hm => ?_, hsc.1, FF.mono hF_77 (by decide) (by decide)⟩)
        have hz : (dg5 (TT b L) q).2 = false := by rw [itm_pD eD] at h; exact h
        have hf9 := dg5_f hz
        have hv1 := hw_15 (decide_eq_true hf9.2.2.1)
        have hv2 := hw_34 (decide_eq_true hf9.2.2.2.1)
        obtain ⟨g1, g2⟩ := itm_D eD hz
        rw [g1, g2]
        have h7 := hsc.2 hm
        rw [hv1, hv2] at h7
        unfold dgC
        rw [e28]
        exact h7
      · replace h8 : srt (TT b L (dg4 (TT b L) q).1) = 7 := (nI_eq (a := (srt (TT b L (dg4 (TT b L) q).1))) (b := 7) (by omega) (by omega)).mp (Decidable.not_not.mp h8)
        refine w_blk 2 (pc' := 258) (ls' := [some (.ref 53), some (.int 0), some (.int (nI (6 + (q.n 0))))]) (sk' := [.int 1, .ref 53]) (st' := s65) (fun _ h => h) ?_
        have hok9 : (decide (TT b L (dg4 (TT b L) q).1 = 102)) = true := decide_eq_true (by omega)
        obtain ⟨s82, hc_83, hQ_84, hf_85⟩ := m_due (d + 1) L b (dg4 (TT b L) q) (decide (TT b L (dg4 (TT b L) q).1 = 102)) 1 w9 s65 (MS_ff hF_66 (by decide) (by decide) hP) hb hL hQ_72 hV9 (by rw [hok9]; rfl)
        refine w_callV (As := [.ref 53, .int 1]) (rest := []) rfl rfl rfl (Nat.le_of_ble_eq_true rfl) (Nat.le_of_ble_eq_true rfl) (by first | exact Or.inl ⟨rfl, rfl⟩ | exact Or.inr ⟨rfl, rfl⟩) hc_83 ?_
        replace hQ_84 : MQu s82 b L (dg5 (TT b L) q) := hQ_84
        have hF_86 : FF [53, 55, 56, 57, 58] [13, 14, 15, 16, 17] st s82 := FF.trans hF_66 (FF.mono hf_85 (by decide) (by decide))
        refine w_blk 1 (pc' := 262) (ls' := [some (.ref 53), some (.int 0), some (.int (nI (6 + (q.n 0))))]) (sk' := []) (st' := s82) (fun _ h => h) ?_
        have r56_87 : s82.1 56 = upd (st.1 56) (6 + (q.n 0)) (nI w14) := (hf_85.1.1 56 (by decide)).trans hr56__67
        have r57_88 : s82.1 57 = upd (st.1 57) (6 + (q.n 0)) (nI w33) := (hf_85.1.1 57 (by decide)).trans hr57__68
        have r58_89 : s82.1 58 = upd (st.1 58) (6 + (q.n 0)) (nI 0) := (hf_85.1.1 58 (by decide)).trans hr58__69
        have r55_90 : s82.1 55 = upd (st.1 55) 1 (nI ((q.n 0) + 1)) := (hf_85.1.1 55 (by decide)).trans hr55__70
        have hsc := sc_D (c := q.c) hF_86.1 (by decide) hnl r55_90 r56_87 r57_88 r58_89
        refine w_vret rfl rfl (hq s82 ⟨by rw [itm_pD eD]; exact hQ_84, fun h hm => ?_, hsc.1, FF.mono hF_86 (by decide) (by decide)⟩)
        have hz : (dg5 (TT b L) q).2 = false := by rw [itm_pD eD] at h; exact h
        have hf9 := dg5_f hz
        have hv1 := hw_15 (decide_eq_true hf9.2.2.1)
        have hv2 := hw_34 (decide_eq_true hf9.2.2.2.1)
        obtain ⟨g1, g2⟩ := itm_D eD hz
        rw [g1, g2]
        have h7 := hsc.2 hm
        rw [hv1, hv2] at h7
        unfold dgC
        rw [e28]
        exact h7
    · refine w_blk 2 (pc' := 131) (ls' := [some (.ref 53), some (.int 0), some (.int (nI (6 + (q.n 0))))]) (sk' := [.int 1, .int (nI (6 + (q.n 0))), .ref 58]) (st' := s48) (fun _ h => h) ?_
      have e28 : (if TT b L (dg3 (TT b L) q).1 = 107 then 1 else 0) = 1 := if_pos (e27.mp (Decidable.not_not.mp h9))
      show mW (mMC mT (d + 4)) (0, fun _ => 0) (mAtL P_X10_readItem) none Q 131 [some (.ref 53), some (.int 0), some (.int (nI (6 + (q.n 0))))] [.int (nI 1), .int (nI (6 + (q.n 0))), .ref 58] s48
      refine w_iast rfl rfl (vp_in_nI (n := (6 + (q.n 0))) (N := 12) hix (by decide)) ?_
      rw [nI_clamp (show (6 + (q.n 0)) < 2 ^ 31 from hic)]
      have hF_92 : FF [53, 55, 56, 57, 58] [13, 14, 15, 16, 17] st ((mU s48.1 58 (6 + (q.n 0)) (nI 1)), s48.2) := (FF.wr hF_52 (by decide) (by decide))
      have hr56__93 : (((mU s48.1 58 (6 + (q.n 0)) (nI 1)), s48.2)).1 56 = upd (st.1 56) (6 + (q.n 0)) (nI w14) := r56_53
      have hr57__94 : (((mU s48.1 58 (6 + (q.n 0)) (nI 1)), s48.2)).1 57 = upd (st.1 57) (6 + (q.n 0)) (nI w33) := r57_54
      have hr58__95 : (((mU s48.1 58 (6 + (q.n 0)) (nI 1)), s48.2)).1 58 = upd (st.1 58) (6 + (q.n 0)) (nI 1) := (mU_eq.trans (congrArg (fun f => upd f (6 + (q.n 0)) (nI 1)) r58_55))
      have hr55__96 : (((mU s48.1 58 (6 + (q.n 0)) (nI 1)), s48.2)).1 55 = st.1 55 := r55_56
      have hQ_97 : (((mU s48.1 58 (6 + (q.n 0)) (nI 1)), s48.2)).1 53 = s48.1 53 := rfl
      generalize ((mU s48.1 58 (6 + (q.n 0)) (nI 1)), s48.2) = s91 at hF_92 hr56__93 hr57__94 hr58__95 hr55__96 hQ_97 ⊢
      have hQ_98 := MQu_e hQ_97 hQ_50
      refine w_blk 4 (pc' := 138) (ls' := [some (.ref 53), some (.int 0), some (.int (nI (6 + (q.n 0))))]) (sk' := [.int 1, .ref 55, .int 1, .ref 55]) (st' := s91) (fun _ h => h) ?_
      refine w_iald rfl rfl (vp_in_nI (n := 1) (N := 2) (by decide) (by decide)) ?_
      rw [show Int32.toNatClampNeg (1 : Int32) = 1 from rfl]
      rw [(congrFun hr55__96 1).trans hN.1]
      refine w_blk 2 (pc' := 141) (ls' := [some (.ref 53), some (.int 0), some (.int (nI (6 + (q.n 0))))]) (sk' := [.int ((nI (q.n 0)) + 1), .int 1, .ref 55]) (st' := s91) (fun _ h => h) ?_
      rw [show ((nI (q.n 0)) + 1) = nI ((q.n 0) + 1) from nI_add (q.n 0) 1]
      refine w_iast rfl rfl (vp_in_nI (n := 1) (N := 2) (by decide) (by decide)) ?_
      rw [show Int32.toNatClampNeg (1 : Int32) = 1 from rfl]
      have hF_100 : FF [53, 55, 56, 57, 58] [13, 14, 15, 16, 17] st ((mU s91.1 55 1 (nI ((q.n 0) + 1))), s91.2) := (FF.wr hF_92 (by decide) (by decide))
      have hr56__101 : (((mU s91.1 55 1 (nI ((q.n 0) + 1))), s91.2)).1 56 = upd (st.1 56) (6 + (q.n 0)) (nI w14) := hr56__93
      have hr57__102 : (((mU s91.1 55 1 (nI ((q.n 0) + 1))), s91.2)).1 57 = upd (st.1 57) (6 + (q.n 0)) (nI w33) := hr57__94
      have hr58__103 : (((mU s91.1 55 1 (nI ((q.n 0) + 1))), s91.2)).1 58 = upd (st.1 58) (6 + (q.n 0)) (nI 1) := hr58__95
      have hr55__104 : (((mU s91.1 55 1 (nI ((q.n 0) + 1))), s91.2)).1 55 = upd (st.1 55) 1 (nI ((q.n 0) + 1)) := (mU_eq.trans (congrArg (fun f => upd f 1 (nI ((q.n 0) + 1))) hr55__96))
      have hQ_105 : (((mU s91.1 55 1 (nI ((q.n 0) + 1))), s91.2)).1 53 = s91.1 53 := rfl
      generalize ((mU s91.1 55 1 (nI ((q.n 0) + 1))), s91.2) = s99 at hF_100 hr56__101 hr57__102 hr58__103 hr55__104 hQ_105 ⊢
      have hQ_106 := MQu_e hQ_105 hQ_98
      have hT9 := TT_r b L (dg4 (TT b L) q).1
      have hk7 := srt_7 hT9.1
      have hs9 := srt_le hT9.1
      have hsr9 : s99.1 53 15 = nI (srt (TT b L (dg4 (TT b L) q).1)) := hQ_106.1.2.2.1
      obtain ⟨w9, hV9, -⟩ := hQ_106.1.2.2.2
      refine w_blk 4 (pc' := 248) (ls' := [some (.ref 53), some (.int 0), some (.int (nI (6 + (q.n 0))))]) (sk' := [.int (s99.1 53 15), .ref 53]) (st' := s99) (fun _ h => h) ?_
      rw [hsr9]
      refine w_blk 1 (pc' := 250) (ls' := [some (.ref 53), some (.int 0), some (.int (nI (6 + (q.n 0))))]) (sk' := [.int 7, .int (nI (srt (TT b L (dg4 (TT b L) q).1))), .ref 53]) (st' := s99) (fun _ h => h) ?_
      refine w_cmp_ne rfl (fun h8 => ?_) (fun h8 => ?_)
      · replace h8 : ¬ (srt (TT b L (dg4 (TT b L) q).1) = 7) := fun hh => h8 ((nI_eq (a := (srt (TT b L (dg4 (TT b L) q).1))) (b := 7) (by omega) (by omega)).mpr hh)
        refine w_blk 1 (pc' := 258) (ls' := [some (.ref 53), some (.int 0), some (.int (nI (6 + (q.n 0))))]) (sk' := [.int 0, .ref 53]) (st' := s99) (fun _ h => h) ?_
        have hok9 : (decide (TT b L (dg4 (TT b L) q).1 = 102)) = false := decide_eq_false (by omega)
        obtain ⟨s107, hc_108, hQ_109, hf_110⟩ := m_due (d + 1) L b (dg4 (TT b L) q) (decide (TT b L (dg4 (TT b L) q).1 = 102)) 0 w9 s99 (MS_ff hF_100 (by decide) (by decide) hP) hb hL hQ_106 hV9 (by rw [hok9]; rfl)
        refine w_callV (As := [.ref 53, .int 0]) (rest := []) rfl rfl rfl (Nat.le_of_ble_eq_true rfl) (Nat.le_of_ble_eq_true rfl) (by first | exact Or.inl ⟨rfl, rfl⟩ | exact Or.inr ⟨rfl, rfl⟩) hc_108 ?_
        replace hQ_109 : MQu s107 b L (dg5 (TT b L) q) := hQ_109
        have hF_111 : FF [53, 55, 56, 57, 58] [13, 14, 15, 16, 17] st s107 := FF.trans hF_100 (FF.mono hf_110 (by decide) (by decide))
        refine w_blk 1 (pc' := 262) (ls' := [some (.ref 53), some (.int 0), some (.int (nI (6 + (q.n 0))))]) (sk' := []) (st' := s107) (fun _ h => h) ?_
        have r56_112 : s107.1 56 = upd (st.1 56) (6 + (q.n 0)) (nI w14) := (hf_110.1.1 56 (by decide)).trans hr56__101
        have r57_113 : s107.1 57 = upd (st.1 57) (6 + (q.n 0)) (nI w33) := (hf_110.1.1 57 (by decide)).trans hr57__102
        have r58_114 : s107.1 58 = upd (st.1 58) (6 + (q.n 0)) (nI 1) := (hf_110.1.1 58 (by decide)).trans hr58__103
        have r55_115 : s107.1 55 = upd (st.1 55) 1 (nI ((q.n 0) + 1)) := (hf_110.1.1 55 (by decide)).trans hr55__104
        have hsc := sc_D (c := q.c) hF_111.1 (by decide) hnl r55_115 r56_112 r57_113 r58_114
        refine w_vret rfl rfl (hq s107 ⟨by rw [itm_pD eD]; exact hQ_109, fun h hm => ?_, hsc.1, FF.mono hF_111 (by decide) (by decide)⟩)
        have hz : (dg5 (TT b L) q).2 = false := by rw [itm_pD eD] at h; exact h
        have hf9 := dg5_f hz
        have hv1 := hw_15 (decide_eq_true hf9.2.2.1)
        have hv2 := hw_34 (decide_eq_true hf9.2.2.2.1)
        obtain ⟨g1, g2⟩ := itm_D eD hz
        rw [g1, g2]
        have h7 := hsc.2 hm
        rw [hv1, hv2] at h7
        unfold dgC
        rw [e28]
        exact h7
      · replace h8 : srt (TT b L (dg4 (TT b L) q).1) = 7 := (nI_eq (a := (srt (TT b L (dg4 (TT b L) q).1))) (b := 7) (by omega) (by omega)).mp (Decidable.not_not.mp h8)
        refine w_blk 2 (pc' := 258) (ls' := [some (.ref 53), some (.int 0), some (.int (nI (6 + (q.n 0))))]) (sk' := [.int 1, .ref 53]) (st' := s99) (fun _ h => h) ?_
        have hok9 : (decide (TT b L (dg4 (TT b L) q).1 = 102)) = true := decide_eq_true (by omega)
        obtain ⟨s116, hc_117, hQ_118, hf_119⟩ := m_due (d + 1) L b (dg4 (TT b L) q) (decide (TT b L (dg4 (TT b L) q).1 = 102)) 1 w9 s99 (MS_ff hF_100 (by decide) (by decide) hP) hb hL hQ_106 hV9 (by rw [hok9]; rfl)
        refine w_callV (As := [.ref 53, .int 1]) (rest := []) rfl rfl rfl (Nat.le_of_ble_eq_true rfl) (Nat.le_of_ble_eq_true rfl) (by first | exact Or.inl ⟨rfl, rfl⟩ | exact Or.inr ⟨rfl, rfl⟩) hc_117 ?_
        replace hQ_118 : MQu s116 b L (dg5 (TT b L) q) := hQ_118
        have hF_120 : FF [53, 55, 56, 57, 58] [13, 14, 15, 16, 17] st s116 := FF.trans hF_100 (FF.mono hf_119 (by decide) (by decide))
        refine w_blk 1 (pc' := 262) (ls' := [some (.ref 53), some (.int 0), some (.int (nI (6 + (q.n 0))))]) (sk' := []) (st' := s116) (fun _ h => h) ?_
        have r56_121 : s116.1 56 = upd (st.1 56) (6 + (q.n 0)) (nI w14) := (hf_119.1.1 56 (by decide)).trans hr56__101
        have r57_122 : s116.1 57 = upd (st.1 57) (6 + (q.n 0)) (nI w33) := (hf_119.1.1 57 (by decide)).trans hr57__102
        have r58_123 : s116.1 58 = upd (st.1 58) (6 + (q.n 0)) (nI 1) := (hf_119.1.1 58 (by decide)).trans hr58__103
        have r55_124 : s116.1 55 = upd (st.1 55) 1 (nI ((q.n 0) + 1)) := (hf_119.1.1 55 (by decide)).trans hr55__104
        have hsc := sc_D (c := q.c) hF_120.1 (by decide) hnl r55_124 r56_121 r57_122 r58_123
        refine w_vret rfl rfl (hq s116 ⟨by rw [itm_pD eD]; exact hQ_118, fun h hm => ?_, hsc.1, FF.mono hF_120 (by decide) (by decide)⟩)
        have hz : (dg5 (TT b L) q).2 = false := by rw [itm_pD eD] at h; exact h
        have hf9 := dg5_f hz
        have hv1 := hw_15 (decide_eq_true hf9.2.2.1)
        have hv2 := hw_34 (decide_eq_true hf9.2.2.2.1)
        obtain ⟨g1, g2⟩ := itm_D eD hz
        rw [g1, g2]
        have h7 := hsc.2 hm
        rw [hv1, hv2] at h7
        unfold dgC
        rw [e28]
        exact h7
  · replace h1 : ¬ (q.n 0 < 6) := fun hh => h1 ((nI_ltI (a := (q.n 0)) (b := 6) (by omega) (by omega)).mpr hh)
    refine w_blk 2 (pc' := 23) (ls' := [some (.ref 53), some (.int 0), none]) (sk' := [.int 1, .int 0, .ref 53]) (st' := st) (fun _ h => h) ?_
    refine w_cmp_ne rfl (fun _ => ?_) (fun hno => absurd (by decide) hno)
    refine w_blk 2 (pc' := 39) (ls' := [some (.ref 53), some (.int 0), none]) (sk' := [.int 2, .int 0, .ref 53]) (st' := st) (fun _ h => h) ?_
    refine w_cmp_ne rfl (fun _ => ?_) (fun hno => absurd (by decide) hno)
    refine w_blk 1 (pc' := 58) (ls' := [some (.ref 53), some (.int 0), none]) (sk' := [.int 0, .ref 53]) (st' := st) (fun _ h => h) ?_
    have hok : (decide (q.n 0 < 6)) = false := decide_eq_false (by omega)
    obtain ⟨s125, hc_126, hQ_127, hf_128⟩ := m_due (d + 1) L b q.p (decide (q.n 0 < 6)) 0 w0 st (MS_ff (FF.rf : FF [53] [13] st st) (by decide) (by decide) hP) hb hL hQ hV (by rw [hok]; rfl)
    refine w_callV (As := [.ref 53, .int 0]) (rest := []) rfl rfl rfl (Nat.le_of_ble_eq_true rfl) (Nat.le_of_ble_eq_true rfl) (by first | exact Or.inl ⟨rfl, rfl⟩ | exact Or.inr ⟨rfl, rfl⟩) hc_126 ?_
    rw [adv_no hqf hok] at hQ_127
    have hfl : s125.1 53 17 = nI (ps b L q.p.1) := hQ_127.2
    refine w_blk 3 (pc' := 66) (ls' := [some (.ref 53), some (.int 0), none]) (sk' := [.int (s125.1 53 17)]) (st' := s125) (fun _ h => h) ?_
    rw [hfl]
    refine w_blk 1 (pc' := 68) (ls' := [some (.ref 53), some (.int 0), none]) (sk' := [.int (-9), .int (nI (ps b L q.p.1))]) (st' := s125) (fun _ h => h) ?_
    refine w_cmp_eq rfl (fun hno => absurd hno (nI9 (by omega))) (fun _ => ?_)
    have hit : (itm (TT b L) q).p = (q.p.1, true) := (itm_pD eD).trans ((dg5_st (by rw [show dg1 q = _ from adv_no hqf hok])).trans (adv_no hqf hok))
    exact w_vret rfl rfl (hq s125 ⟨by rw [hit]; exact hQ_127, fun h => absurd h (by rw [hit]; exact fun e => Bool.noConfusion e), MRl.fr hf_128.1 (by decide), FF.mono hf_128 (by decide) (by decide)⟩)
set_option maxHeartbeats 4000000 in
set_option maxRecDepth 20000 in
/-- readItem() -/
theorem m_readItemS (d : Nat) (L : Nat) (b : Nat → Nat) (q : RQ) (st : mSt) (hP : MS st L b) (hb : ∀ j, j < L → b j < 256) (hL : L ≤ 300) (hQ : MQu st b L q.p) (hqf : q.p.2 = false) (hN : st.1 55 1 = nI (q.n 0) ∧ st.1 59 1 = nI (q.n 1) ∧ st.1 62 1 = nI (q.n 2)) (hB : CB q.n q.c) (eS : TT b L q.p.1 = 104) : ∃ (s : mSt), mMC mT (d + 5) 139 [.ref 53] st (none) s ∧ MQu s b L (itm (TT b L) q).p ∧ ((itm (TT b L) q).p.2 = false → MSc st q.n q.c → MSc s (itm (TT b L) q).n (itm (TT b L) q).c) ∧ MRl st s ∧ FF [53, 55, 56, 57, 58, 59, 60, 61, 62, 63, 64] [13, 14, 15, 16, 17] st s := by
  suffices H : ∀ Q : Option Value → mSt → Prop, (∀ (s : mSt), (MQu s b L (itm (TT b L) q).p ∧ ((itm (TT b L) q).p.2 = false → MSc st q.n q.c → MSc s (itm (TT b L) q).n (itm (TT b L) q).c) ∧ MRl st s ∧ FF [53, 55, 56, 57, 58, 59, 60, 61, 62, 63, 64] [13, 14, 15, 16, 17] st s) → Q (none) s) → mW (mMC mT (d + 4)) (0, fun _ => 0) (mAtL P_X10_readItem) none Q 0 [some (.ref 53), none, none] [] st by
    obtain ⟨_, _, ⟨s, rfl, rfl, hp⟩, hw⟩ := mW_ex (H (fun vv tt => ∃ (s : mSt),  vv = none ∧ s = tt ∧ MQu s b L (itm (TT b L) q).p ∧ ((itm (TT b L) q).p.2 = false → MSc st q.n q.c → MSc s (itm (TT b L) q).n (itm (TT b L) q).c) ∧ MRl st s ∧ FF [53, 55, 56, 57, 58, 59, 60, 61, 62, 63, 64] [13, 14, 15, 16, 17] st s) (fun s hp => ⟨s, rfl, rfl, hp⟩))
    exact ⟨s, mI_X10_readItem (d := d + 4) (Nat.le_of_ble_eq_true rfl) hw, hp⟩
  intro Q hq
  obtain ⟨hb0, hb1, hb2, -⟩ := id hB
  have hpl := ps_le b L q.p.1
  obtain ⟨w0, hV, -⟩ := hQ.1.2.2.2
  have hT := TT_r b L q.p.1
  have hs8 := srt_le hT.1
  have hsr : st.1 53 15 = nI (srt (TT b L q.p.1)) := hQ.1.2.2.1
  have hsr2 : st.1 53 15 = 1 := by rw [hsr, eS]; rfl
  refine w_blk 2 (pc' := 4) (ls' := [some (.ref 53), none, none]) (sk' := [.int (st.1 53 15)]) (st' := st) (fun _ h => h) ?_
  rw [hsr2]
  refine w_blk 3 (pc' := 7) (ls' := [some (.ref 53), some (.int 1), none]) (sk' := [.int 1, .ref 53]) (st' := st) (fun _ h => h) ?_
  refine w_if_ne rfl (fun _ => ?_) (fun hno => absurd (by decide) hno)
  refine w_blk 2 (pc' := 23) (ls' := [some (.ref 53), some (.int 1), none]) (sk' := [.int 1, .int 1, .ref 53]) (st' := st) (fun _ h => h) ?_
  refine w_cmp_ne rfl (fun hno => absurd hno (by decide)) (fun _ => ?_)
  refine w_blk 3 (pc' := 31) (ls' := [some (.ref 53), some (.int 1), none]) (sk' := [.int 1, .ref 59, .ref 53]) (st' := st) (fun _ h => h) ?_
  refine w_iald rfl rfl (vp_in_nI (n := 1) (N := 2) (by decide) (by decide)) ?_
  rw [show Int32.toNatClampNeg (1 : Int32) = 1 from rfl]
  rw [hN.2.1]
  refine w_blk 1 (pc' := 34) (ls' := [some (.ref 53), some (.int 1), none]) (sk' := [.int 8, .int (nI (q.n 1)), .ref 53]) (st' := st) (fun _ h => h) ?_
  refine w_cmp_lt rfl (fun h1 => ?_) (fun h1 => ?_)
  · replace h1 : q.n 1 < 8 := (nI_ltI (a := (q.n 1)) (b := 8) (by omega) (by omega)).mp h1
    refine w_blk 2 (pc' := 58) (ls' := [some (.ref 53), some (.int 1), none]) (sk' := [.int 1, .ref 53]) (st' := st) (fun _ h => h) ?_
    have hnl : q.n 1 < 8 := by omega
    have hok : (decide (q.n 1 < 8)) = true := decide_eq_true hnl
    obtain ⟨s1, hc_2, hQ_3, hf_4⟩ := m_due (d + 1) L b q.p (decide (q.n 1 < 8)) 1 w0 st (MS_ff (FF.rf : FF [53] [13] st st) (by decide) (by decide) hP) hb hL hQ hV (by rw [hok]; rfl)
    refine w_callV (As := [.ref 53, .int 1]) (rest := []) rfl rfl rfl (Nat.le_of_ble_eq_true rfl) (Nat.le_of_ble_eq_true rfl) (by first | exact Or.inl ⟨rfl, rfl⟩ | exact Or.inr ⟨rfl, rfl⟩) hc_2 ?_
    have hix : 8 + (q.n 1) < 16 := by omega
    have hic : 8 + (q.n 1) < 2 ^ 31 := by omega
    have hd1 : sd1 q = (q.p.1 + 1, false) := adv_go hqf hok
    replace hQ_3 : MQu s1 b L (sd1 q) := hQ_3
    have hfl : s1.1 53 17 = -9 := hQ_3.2.trans (if_neg (by rw [hd1]; exact Bool.false_ne_true))
    have hF_5 : FF [53, 59, 60, 61] [13, 14, 15, 16, 17] st s1 := FF.trans (FF.rf : FF [53, 59, 60, 61] [13, 14, 15, 16, 17] st st) (FF.mono hf_4 (by decide) (by decide))
    have r60_6 : s1.1 60 = st.1 60 := hf_4.1.1 60 (by decide)
    have r61_7 : s1.1 61 = st.1 61 := hf_4.1.1 61 (by decide)
    have r59_8 : s1.1 59 = st.1 59 := hf_4.1.1 59 (by decide)
    refine w_blk 3 (pc' := 66) (ls' := [some (.ref 53), some (.int 1), none]) (sk' := [.int (s1.1 53 17)]) (st' := s1) (fun _ h => h) ?_
    rw [hfl]
    refine w_blk 1 (pc' := 68) (ls' := [some (.ref 53), some (.int 1), none]) (sk' := [.int (-9), .int (-9)]) (st' := s1) (fun _ h => h) ?_
    refine w_cmp_eq rfl (fun _ => ?_) (fun hno => absurd rfl hno)
    refine w_blk 1 (pc' := 73) (ls' := [some (.ref 53), some (.int 1), none]) (sk' := [.int 1]) (st' := s1) (fun _ h => h) ?_
    refine w_if_ne rfl (fun _ => ?_) (fun hno => absurd (by decide) hno)
    refine w_blk 2 (pc' := 147) (ls' := [some (.ref 53), some (.int 1), none]) (sk' := [.int 1, .int 1]) (st' := s1) (fun _ h => h) ?_
    refine w_cmp_ne rfl (fun hno => absurd hno (by decide)) (fun _ => ?_)
    refine w_blk 4 (pc' := 157) (ls' := [some (.ref 53), some (.int 1), none]) (sk' := [.int 1, .ref 59, .int 8]) (st' := s1) (fun _ h => h) ?_
    refine w_iald rfl rfl (vp_in_nI (n := 1) (N := 2) (by decide) (by decide)) ?_
    rw [show Int32.toNatClampNeg (1 : Int32) = 1 from rfl]
    rw [(congrFun r59_8 1).trans hN.2.1]
    refine w_blk 1 (pc' := 159) (ls' := [some (.ref 53), some (.int 1), none]) (sk' := [.int (8 + (nI (q.n 1)))]) (st' := s1) (fun _ h => h) ?_
    rw [show (8 + (nI (q.n 1))) = nI (8 + (q.n 1)) from nI_add 8 (q.n 1)]
    refine w_blk 7 (pc' := 169) (ls' := [some (.ref 53), some (.int 1), some (.int (nI (8 + (q.n 1))))]) (sk' := [.int 9, .int 1, .ref 53, .int (nI (8 + (q.n 1))), .ref 60]) (st' := s1) (fun _ h => h) ?_
    obtain ⟨w13, s9, hc_10, hQ_11, hw_14, hf_12⟩ := m_number9 (d + 0) L b (sd1 q) s1 (MS_ff hF_5 (by decide) (by decide) hP) hb hL hQ_3
    refine w_callV (As := [.ref 53, .int 1, .int 9]) (rest := [.int (nI (8 + (q.n 1))), .ref 60]) rfl rfl rfl (Nat.le_of_ble_eq_true rfl) (Nat.le_of_ble_eq_true rfl) (by first | exact Or.inl ⟨rfl, rfl⟩ | exact Or.inr ⟨rfl, rfl⟩) hc_10 ?_
    replace hQ_11 : MQu s9 b L (sd2 (TT b L) q) := hQ_11
    have hF_15 : FF [53, 59, 60, 61] [13, 14, 15, 16, 17] st s9 := FF.trans hF_5 (FF.mono hf_12 (by decide) (by decide))
    have r60_16 : s9.1 60 = st.1 60 := (hf_12.1.1 60 (by decide)).trans r60_6
    have r61_17 : s9.1 61 = st.1 61 := (hf_12.1.1 61 (by decide)).trans r61_7
    have r59_18 : s9.1 59 = st.1 59 := (hf_12.1.1 59 (by decide)).trans r59_8
    refine w_iast rfl rfl (vp_in_nI (n := (8 + (q.n 1))) (N := 16) hix (by decide)) ?_
    rw [nI_clamp (show (8 + (q.n 1)) < 2 ^ 31 from hic)]
    have hF_20 : FF [53, 59, 60, 61] [13, 14, 15, 16, 17] st ((mU s9.1 60 (8 + (q.n 1)) (nI w13)), s9.2) := (FF.wr hF_15 (by decide) (by decide))
    have hr60__21 : (((mU s9.1 60 (8 + (q.n 1)) (nI w13)), s9.2)).1 60 = upd (st.1 60) (8 + (q.n 1)) (nI w13) := (mU_eq.trans (congrArg (fun f => upd f (8 + (q.n 1)) (nI w13)) r60_16))
    have hr61__22 : (((mU s9.1 60 (8 + (q.n 1)) (nI w13)), s9.2)).1 61 = st.1 61 := r61_17
    have hr59__23 : (((mU s9.1 60 (8 + (q.n 1)) (nI w13)), s9.2)).1 59 = st.1 59 := r59_18
    have hQ_24 : (((mU s9.1 60 (8 + (q.n 1)) (nI w13)), s9.2)).1 53 = s9.1 53 := rfl
    generalize ((mU s9.1 60 (8 + (q.n 1)) (nI w13)), s9.2) = s19 at hF_20 hr60__21 hr61__22 hr59__23 hQ_24 ⊢
    have hQ_25 := MQu_e hQ_24 hQ_11
    refine w_blk 5 (pc' := 180) (ls' := [some (.ref 53), some (.int 1), some (.int (nI (8 + (q.n 1))))]) (sk' := [.int 1, .ref 53, .int (nI (8 + (q.n 1))), .ref 61]) (st' := s19) (fun _ h => h) ?_
    obtain ⟨s26, hc_27, hQ_28, hf_29⟩ := m_side1 (d + 1) L b (sd2 (TT b L) q) s19 (MS_ff hF_20 (by decide) (by decide) hP) hb hL hQ_25
    refine w_callV (As := [.ref 53, .int 1]) (rest := [.int (nI (8 + (q.n 1))), .ref 61]) rfl rfl rfl (Nat.le_of_ble_eq_true rfl) (Nat.le_of_ble_eq_true rfl) (by first | exact Or.inl ⟨rfl, rfl⟩ | exact Or.inr ⟨rfl, rfl⟩) hc_27 ?_
    replace hQ_28 : MQu s26 b L (sd3 (TT b L) q) := hQ_28
    have hF_30 : FF [53, 59, 60, 61] [13, 14, 15, 16, 17] st s26 := FF.trans hF_20 (FF.mono hf_29 (by decide) (by decide))
    have r60_31 : s26.1 60 = upd (st.1 60) (8 + (q.n 1)) (nI w13) := (hf_29.1.1 60 (by decide)).trans hr60__21
    have r61_32 : s26.1 61 = st.1 61 := (hf_29.1.1 61 (by decide)).trans hr61__22
    have r59_33 : s26.1 59 = st.1 59 := (hf_29.1.1 59 (by decide)).trans hr59__23
    refine w_iast rfl rfl (vp_in_nI (n := (8 + (q.n 1))) (N := 16) hix (by decide)) ?_
    rw [nI_clamp (show (8 + (q.n 1)) < 2 ^ 31 from hic)]
    have hF_35 : FF [53, 59, 60, 61] [13, 14, 15, 16, 17] st ((mU s26.1 61 (8 + (q.n 1)) (nI (wm (TT b L (sd2 (TT b L) q).1)))), s26.2) := (FF.wr hF_30 (by decide) (by decide))
    have hr60__36 : (((mU s26.1 61 (8 + (q.n 1)) (nI (wm (TT b L (sd2 (TT b L) q).1)))), s26.2)).1 60 = upd (st.1 60) (8 + (q.n 1)) (nI w13) := r60_31
    have hr61__37 : (((mU s26.1 61 (8 + (q.n 1)) (nI (wm (TT b L (sd2 (TT b L) q).1)))), s26.2)).1 61 = upd (st.1 61) (8 + (q.n 1)) (nI (wm (TT b L (sd2 (TT b L) q).1))) := (mU_eq.trans (congrArg (fun f => upd f (8 + (q.n 1)) (nI (wm (TT b L (sd2 (TT b L) q).1)))) r61_32))
    have hr59__38 : (((mU s26.1 61 (8 + (q.n 1)) (nI (wm (TT b L (sd2 (TT b L) q).1)))), s26.2)).1 59 = st.1 59 := r59_33
    have hQ_39 : (((mU s26.1 61 (8 + (q.n 1)) (nI (wm (TT b L (sd2 (TT b L) q).1)))), s26.2)).1 53 = s26.1 53 := rfl
    generalize ((mU s26.1 61 (8 + (q.n 1)) (nI (wm (TT b L (sd2 (TT b L) q).1)))), s26.2) = s34 at hF_35 hr60__36 hr61__37 hr59__38 hQ_39 ⊢
    have hQ_40 := MQu_e hQ_39 hQ_28
    refine w_blk 4 (pc' := 190) (ls' := [some (.ref 53), some (.int 1), some (.int (nI (8 + (q.n 1))))]) (sk' := [.int 1, .ref 59, .int 1, .ref 59]) (st' := s34) (fun _ h => h) ?_
    refine w_iald rfl rfl (vp_in_nI (n := 1) (N := 2) (by decide) (by decide)) ?_
    rw [show Int32.toNatClampNeg (1 : Int32) = 1 from rfl]
    rw [(congrFun hr59__38 1).trans hN.2.1]
    refine w_blk 2 (pc' := 193) (ls' := [some (.ref 53), some (.int 1), some (.int (nI (8 + (q.n 1))))]) (sk' := [.int ((nI (q.n 1)) + 1), .int 1, .ref 59]) (st' := s34) (fun _ h => h) ?_
    rw [show ((nI (q.n 1)) + 1) = nI ((q.n 1) + 1) from nI_add (q.n 1) 1]
    refine w_iast rfl rfl (vp_in_nI (n := 1) (N := 2) (by decide) (by decide)) ?_
    rw [show Int32.toNatClampNeg (1 : Int32) = 1 from rfl]
    have hF_42 : FF [53, 59, 60, 61] [13, 14, 15, 16, 17] st ((mU s34.1 59 1 (nI ((q.n 1) + 1))), s34.2) := (FF.wr hF_35 (by decide) (by decide))
    have hr60__43 : (((mU s34.1 59 1 (nI ((q.n 1) + 1))), s34.2)).1 60 = upd (st.1 60) (8 + (q.n 1)) (nI w13) := hr60__36
    have hr61__44 : (((mU s34.1 59 1 (nI ((q.n 1) + 1))), s34.2)).1 61 = upd (st.1 61) (8 + (q.n 1)) (nI (wm (TT b L (sd2 (TT b L) q).1))) := hr61__37
    have hr59__45 : (((mU s34.1 59 1 (nI ((q.n 1) + 1))), s34.2)).1 59 = upd (st.1 59) 1 (nI ((q.n 1) + 1)) := (mU_eq.trans (congrArg (fun f => upd f 1 (nI ((q.n 1) + 1))) hr59__38))
    have hQ_46 : (((mU s34.1 59 1 (nI ((q.n 1) + 1))), s34.2)).1 53 = s34.1 53 := rfl
    generalize ((mU s34.1 59 1 (nI ((q.n 1) + 1))), s34.2) = s41 at hF_42 hr60__43 hr61__44 hr59__45 hQ_46 ⊢
    have hQ_47 := MQu_e hQ_46 hQ_40
    have hT9 := TT_r b L (sd3 (TT b L) q).1
    have hk7 := srt_7 hT9.1
    have hs9 := srt_le hT9.1
    have hsr9 : s41.1 53 15 = nI (srt (TT b L (sd3 (TT b L) q).1)) := hQ_47.1.2.2.1
    obtain ⟨w9, hV9, -⟩ := hQ_47.1.2.2.2
    refine w_blk 4 (pc' := 248) (ls' := [some (.ref 53), some (.int 1), some (.int (nI (8 + (q.n 1))))]) (sk' := [.int (s41.1 53 15), .ref 53]) (st' := s41) (fun _ h => h) ?_
    rw [hsr9]
    refine w_blk 1 (pc' := 250) (ls' := [some (.ref 53), some (.int 1), some (.int (nI (8 + (q.n 1))))]) (sk' := [.int 7, .int (nI (srt (TT b L (sd3 (TT b L) q).1))), .ref 53]) (st' := s41) (fun _ h => h) ?_
    refine w_cmp_ne rfl (fun h8 => ?_) (fun h8 => ?_)
    · replace h8 : ¬ (srt (TT b L (sd3 (TT b L) q).1) = 7) := fun hh => h8 ((nI_eq (a := (srt (TT b L (sd3 (TT b L) q).1))) (b := 7) (by omega) (by omega)).mpr hh)
      refine w_blk 1 (pc' := 258) (ls' := [some (.ref 53), some (.int 1), some (.int (nI (8 + (q.n 1))))]) (sk' := [.int 0, .ref 53]) (st' := s41) (fun _ h => h) ?_
      have hok9 : (decide (TT b L (sd3 (TT b L) q).1 = 102)) = false := decide_eq_false (by omega)
      obtain ⟨s48, hc_49, hQ_50, hf_51⟩ := m_due (d + 1) L b (sd3 (TT b L) q) (decide (TT b L (sd3 (TT b L) q).1 = 102)) 0 w9 s41 (MS_ff hF_42 (by decide) (by decide) hP) hb hL hQ_47 hV9 (by rw [hok9]; rfl)
      refine w_callV (As := [.ref 53, .int 0]) (rest := []) rfl rfl rfl (Nat.le_of_ble_eq_true rfl) (Nat.le_of_ble_eq_true rfl) (by first | exact Or.inl ⟨rfl, rfl⟩ | exact Or.inr ⟨rfl, rfl⟩) hc_49 ?_
      replace hQ_50 : MQu s48 b L (sd4 (TT b L) q) := hQ_50
      have hF_52 : FF [53, 59, 60, 61] [13, 14, 15, 16, 17] st s48 := FF.trans hF_42 (FF.mono hf_51 (by decide) (by decide))
      refine w_blk 1 (pc' := 262) (ls' := [some (.ref 53), some (.int 1), some (.int (nI (8 + (q.n 1))))]) (sk' := []) (st' := s48) (fun _ h => h) ?_
      have r60_53 : s48.1 60 = upd (st.1 60) (8 + (q.n 1)) (nI w13) := (hf_51.1.1 60 (by decide)).trans hr60__43
      have r61_54 : s48.1 61 = upd (st.1 61) (8 + (q.n 1)) (nI (wm (TT b L (sd2 (TT b L) q).1))) := (hf_51.1.1 61 (by decide)).trans hr61__44
      have r59_55 : s48.1 59 = upd (st.1 59) 1 (nI ((q.n 1) + 1)) := (hf_51.1.1 59 (by decide)).trans hr59__45
      have hsc := sc_S (c := q.c) hF_52.1 (by decide) hnl r59_55 r60_53 r61_54
      refine w_vret rfl rfl (hq s48 ⟨by rw [itm_pS eS]; exact hQ_50, fun h hm => ?_, hsc.1, FF.mono hF_52 (by decide) (by decide)⟩)
      have hz : (sd4 (TT b L) q).2 = false := by rw [itm_pS eS] at h; exact h
      have hf9 := sd4_f hz
      have hv1 := hw_14 (decide_eq_true hf9.2.2.1)
      obtain ⟨g1, g2⟩ := itm_S eS hz
      rw [g1, g2]
      have h7 := hsc.2 hm
      rw [hv1] at h7
      exact h7
    · replace h8 : srt (TT b L (sd3 (TT b L) q).1) = 7 := (nI_eq (a := (srt (TT b L (sd3 (TT b L) q).1))) (b := 7) (by omega) (by omega)).mp (Decidable.not_not.mp h8)
      refine w_blk 2 (pc' := 258) (ls' := [some (.ref 53), some (.int 1), some (.int (nI (8 + (q.n 1))))]) (sk' := [.int 1, .ref 53]) (st' := s41) (fun _ h => h) ?_
      have hok9 : (decide (TT b L (sd3 (TT b L) q).1 = 102)) = true := decide_eq_true (by omega)
      obtain ⟨s56, hc_57, hQ_58, hf_59⟩ := m_due (d + 1) L b (sd3 (TT b L) q) (decide (TT b L (sd3 (TT b L) q).1 = 102)) 1 w9 s41 (MS_ff hF_42 (by decide) (by decide) hP) hb hL hQ_47 hV9 (by rw [hok9]; rfl)
      refine w_callV (As := [.ref 53, .int 1]) (rest := []) rfl rfl rfl (Nat.le_of_ble_eq_true rfl) (Nat.le_of_ble_eq_true rfl) (by first | exact Or.inl ⟨rfl, rfl⟩ | exact Or.inr ⟨rfl, rfl⟩) hc_57 ?_
      replace hQ_58 : MQu s56 b L (sd4 (TT b L) q) := hQ_58
      have hF_60 : FF [53, 59, 60, 61] [13, 14, 15, 16, 17] st s56 := FF.trans hF_42 (FF.mono hf_59 (by decide) (by decide))
      refine w_blk 1 (pc' := 262) (ls' := [some (.ref 53), some (.int 1), some (.int (nI (8 + (q.n 1))))]) (sk' := []) (st' := s56) (fun _ h => h) ?_
      have r60_61 : s56.1 60 = upd (st.1 60) (8 + (q.n 1)) (nI w13) := (hf_59.1.1 60 (by decide)).trans hr60__43
      have r61_62 : s56.1 61 = upd (st.1 61) (8 + (q.n 1)) (nI (wm (TT b L (sd2 (TT b L) q).1))) := (hf_59.1.1 61 (by decide)).trans hr61__44
      have r59_63 : s56.1 59 = upd (st.1 59) 1 (nI ((q.n 1) + 1)) := (hf_59.1.1 59 (by decide)).trans hr59__45
      have hsc := sc_S (c := q.c) hF_60.1 (by decide) hnl r59_63 r60_61 r61_62
      refine w_vret rfl rfl (hq s56 ⟨by rw [itm_pS eS]; exact hQ_58, fun h hm => ?_, hsc.1, FF.mono hF_60 (by decide) (by decide)⟩)
      have hz : (sd4 (TT b L) q).2 = false := by rw [itm_pS eS] at h; exact h
      have hf9 := sd4_f hz
      have hv1 := hw_14 (decide_eq_true hf9.2.2.1)
      obtain ⟨g1, g2⟩ := itm_S eS hz
      rw [g1, g2]
      have h7 := hsc.2 hm
      rw [hv1] at h7
      exact h7
  · replace h1 : ¬ (q.n 1 < 8) := fun hh => h1 ((nI_ltI (a := (q.n 1)) (b := 8) (by omega) (by omega)).mpr hh)
    refine w_blk 2 (pc' := 39) (ls' := [some (.ref 53), some (.int 1), none]) (sk' := [.int 2, .int 1, .ref 53]) (st' := st) (fun _ h => h) ?_
    refine w_cmp_ne rfl (fun _ => ?_) (fun hno => absurd (by decide) hno)
    refine w_blk 1 (pc' := 58) (ls' := [some (.ref 53), some (.int 1), none]) (sk' := [.int 0, .ref 53]) (st' := st) (fun _ h => h) ?_
    have hok : (decide (q.n 1 < 8)) = false := decide_eq_false (by omega)
    obtain ⟨s64, hc_65, hQ_66, hf_67⟩ := m_due (d + 1) L b q.p (decide (q.n 1 < 8)) 0 w0 st (MS_ff (FF.rf : FF [53] [13] st st) (by decide) (by decide) hP) hb hL hQ hV (by rw [hok]; rfl)
    refine w_callV (As := [.ref 53, .int 0]) (rest := []) rfl rfl rfl (Nat.le_of_ble_eq_true rfl) (Nat.le_of_ble_eq_true rfl) (by first | exact Or.inl ⟨rfl, rfl⟩ | exact Or.inr ⟨rfl, rfl⟩) hc_65 ?_
    rw [adv_no hqf hok] at hQ_66
    have hfl : s64.1 53 17 = nI (ps b L q.p.1) := hQ_66.2
    refine w_blk 3 (pc' := 66) (ls' := [some (.ref 53), some (.int 1), none]) (sk' := [.int (s64.1 53 17)]) (st' := s64) (fun _ h => h) ?_
    rw [hfl]
    refine w_blk 1 (pc' := 68) (ls' := [some (.ref 53), some (.int 1), none]) (sk' := [.int (-9), .int (nI (ps b L q.p.1))]) (st' := s64) (fun _ h => h) ?_
    refine w_cmp_eq rfl (fun hno => absurd hno (nI9 (by omega))) (fun _ => ?_)
    have hit : (itm (TT b L) q).p = (q.p.1, true) := (itm_pS eS).trans ((sd4_st (by rw [show sd1 q = _ from adv_no hqf hok])).trans (adv_no hqf hok))
    exact w_vret rfl rfl (hq s64 ⟨by rw [hit]; exact hQ_66, fun h => absurd h (by rw [hit]; exact fun e => Bool.noConfusion e), MRl.fr hf_67.1 (by decide), FF.mono hf_67 (by decide) (by decide)⟩)
set_option maxHeartbeats 4000000 in
set_option maxRecDepth 20000 in
/-- readItem() -/
theorem m_readItemY (d : Nat) (L : Nat) (b : Nat → Nat) (q : RQ) (st : mSt) (hP : MS st L b) (hb : ∀ j, j < L → b j < 256) (hL : L ≤ 300) (hQ : MQu st b L q.p) (hqf : q.p.2 = false) (hN : st.1 55 1 = nI (q.n 0) ∧ st.1 59 1 = nI (q.n 1) ∧ st.1 62 1 = nI (q.n 2)) (hB : CB q.n q.c) (eY : TT b L q.p.1 = 105) : ∃ (s : mSt), mMC mT (d + 5) 139 [.ref 53] st (none) s ∧ MQu s b L (itm (TT b L) q).p ∧ ((itm (TT b L) q).p.2 = false → MSc st q.n q.c → MSc s (itm (TT b L) q).n (itm (TT b L) q).c) ∧ MRl st s ∧ FF [53, 55, 56, 57, 58, 59, 60, 61, 62, 63, 64] [13, 14, 15, 16, 17] st s := by
  suffices H : ∀ Q : Option Value → mSt → Prop, (∀ (s : mSt), (MQu s b L (itm (TT b L) q).p ∧ ((itm (TT b L) q).p.2 = false → MSc st q.n q.c → MSc s (itm (TT b L) q).n (itm (TT b L) q).c) ∧ MRl st s ∧ FF [53, 55, 56, 57, 58, 59, 60, 61, 62, 63, 64] [13, 14, 15, 16, 17] st s) → Q (none) s) → mW (mMC mT (d + 4)) (0, fun _ => 0) (mAtL P_X10_readItem) none Q 0 [some (.ref 53), none, none] [] st by
    obtain ⟨_, _, ⟨s, rfl, rfl, hp⟩, hw⟩ := mW_ex (H (fun vv tt => ∃ (s : mSt),  vv = none ∧ s = tt ∧ MQu s b L (itm (TT b L) q).p ∧ ((itm (TT b L) q).p.2 = false → MSc st q.n q.c → MSc s (itm (TT b L) q).n (itm (TT b L) q).c) ∧ MRl st s ∧ FF [53, 55, 56, 57, 58, 59, 60, 61, 62, 63, 64] [13, 14, 15, 16, 17] st s) (fun s hp => ⟨s, rfl, rfl, hp⟩))
    exact ⟨s, mI_X10_readItem (d := d + 4) (Nat.le_of_ble_eq_true rfl) hw, hp⟩
  intro Q hq
  obtain ⟨hb0, hb1, hb2, -⟩ := id hB
  have hpl := ps_le b L q.p.1
  obtain ⟨w0, hV, -⟩ := hQ.1.2.2.2
  have hT := TT_r b L q.p.1
  have hs8 := srt_le hT.1
  have hsr : st.1 53 15 = nI (srt (TT b L q.p.1)) := hQ.1.2.2.1
  have hsr2 : st.1 53 15 = 2 := by rw [hsr, eY]; rfl
  refine w_blk 2 (pc' := 4) (ls' := [some (.ref 53), none, none]) (sk' := [.int (st.1 53 15)]) (st' := st) (fun _ h => h) ?_
  rw [hsr2]
  refine w_blk 3 (pc' := 7) (ls' := [some (.ref 53), some (.int 2), none]) (sk' := [.int 2, .ref 53]) (st' := st) (fun _ h => h) ?_
  refine w_if_ne rfl (fun _ => ?_) (fun hno => absurd (by decide) hno)
  refine w_blk 2 (pc' := 23) (ls' := [some (.ref 53), some (.int 2), none]) (sk' := [.int 1, .int 2, .ref 53]) (st' := st) (fun _ h => h) ?_
  refine w_cmp_ne rfl (fun _ => ?_) (fun hno => absurd (by decide) hno)
  refine w_blk 2 (pc' := 39) (ls' := [some (.ref 53), some (.int 2), none]) (sk' := [.int 2, .int 2, .ref 53]) (st' := st) (fun _ h => h) ?_
  refine w_cmp_ne rfl (fun hno => absurd hno (by decide)) (fun _ => ?_)
  refine w_blk 3 (pc' := 47) (ls' := [some (.ref 53), some (.int 2), none]) (sk' := [.int 1, .ref 62, .ref 53]) (st' := st) (fun _ h => h) ?_
  refine w_iald rfl rfl (vp_in_nI (n := 1) (N := 2) (by decide) (by decide)) ?_
  rw [show Int32.toNatClampNeg (1 : Int32) = 1 from rfl]
  rw [hN.2.2]
  refine w_blk 1 (pc' := 50) (ls' := [some (.ref 53), some (.int 2), none]) (sk' := [.int 8, .int (nI (q.n 2)), .ref 53]) (st' := st) (fun _ h => h) ?_
  refine w_cmp_ge rfl (fun h1 => ?_) (fun h1 => ?_)
  · replace h1 : 8 ≤ q.n 2 := (nI_leI (a := 8) (b := (q.n 2)) (by omega) (by omega)).mp h1
    refine w_blk 1 (pc' := 58) (ls' := [some (.ref 53), some (.int 2), none]) (sk' := [.int 0, .ref 53]) (st' := st) (fun _ h => h) ?_
    have hok : (decide (q.n 2 < 8)) = false := decide_eq_false (by omega)
    obtain ⟨s1, hc_2, hQ_3, hf_4⟩ := m_due (d + 1) L b q.p (decide (q.n 2 < 8)) 0 w0 st (MS_ff (FF.rf : FF [53] [13] st st) (by decide) (by decide) hP) hb hL hQ hV (by rw [hok]; rfl)
    refine w_callV (As := [.ref 53, .int 0]) (rest := []) rfl rfl rfl (Nat.le_of_ble_eq_true rfl) (Nat.le_of_ble_eq_true rfl) (by first | exact Or.inl ⟨rfl, rfl⟩ | exact Or.inr ⟨rfl, rfl⟩) hc_2 ?_
    rw [adv_no hqf hok] at hQ_3
    have hfl : s1.1 53 17 = nI (ps b L q.p.1) := hQ_3.2
    refine w_blk 3 (pc' := 66) (ls' := [some (.ref 53), some (.int 2), none]) (sk' := [.int (s1.1 53 17)]) (st' := s1) (fun _ h => h) ?_
    rw [hfl]
    refine w_blk 1 (pc' := 68) (ls' := [some (.ref 53), some (.int 2), none]) (sk' := [.int (-9), .int (nI (ps b L q.p.1))]) (st' := s1) (fun _ h => h) ?_
    refine w_cmp_eq rfl (fun hno => absurd hno (nI9 (by omega))) (fun _ => ?_)
    have hit : (itm (TT b L) q).p = (q.p.1, true) := (itm_pY eY).trans ((yd4_st (by rw [show yd1 q = _ from adv_no hqf hok])).trans (adv_no hqf hok))
    exact w_vret rfl rfl (hq s1 ⟨by rw [hit]; exact hQ_3, fun h => absurd h (by rw [hit]; exact fun e => Bool.noConfusion e), MRl.fr hf_4.1 (by decide), FF.mono hf_4 (by decide) (by decide)⟩)
  · replace h1 : ¬ (8 ≤ q.n 2) := fun hh => h1 ((nI_leI (a := 8) (b := (q.n 2)) (by omega) (by omega)).mpr hh)
    refine w_blk 2 (pc' := 58) (ls' := [some (.ref 53), some (.int 2), none]) (sk' := [.int 1, .ref 53]) (st' := st) (fun _ h => h) ?_
    have hnl : q.n 2 < 8 := by omega
    have hok : (decide (q.n 2 < 8)) = true := decide_eq_true hnl
    obtain ⟨s5, hc_6, hQ_7, hf_8⟩ := m_due (d + 1) L b q.p (decide (q.n 2 < 8)) 1 w0 st (MS_ff (FF.rf : FF [53] [13] st st) (by decide) (by decide) hP) hb hL hQ hV (by rw [hok]; rfl)
    refine w_callV (As := [.ref 53, .int 1]) (rest := []) rfl rfl rfl (Nat.le_of_ble_eq_true rfl) (Nat.le_of_ble_eq_true rfl) (by first | exact Or.inl ⟨rfl, rfl⟩ | exact Or.inr ⟨rfl, rfl⟩) hc_6 ?_
    have hix : 8 + (q.n 2) < 16 := by omega
    have hic : 8 + (q.n 2) < 2 ^ 31 := by omega
    have hd1 : yd1 q = (q.p.1 + 1, false) := adv_go hqf hok
    replace hQ_7 : MQu s5 b L (yd1 q) := hQ_7
    have hfl : s5.1 53 17 = -9 := hQ_7.2.trans (if_neg (by rw [hd1]; exact Bool.false_ne_true))
    have hF_9 : FF [53, 62, 63, 64] [13, 14, 15, 16, 17] st s5 := FF.trans (FF.rf : FF [53, 62, 63, 64] [13, 14, 15, 16, 17] st st) (FF.mono hf_8 (by decide) (by decide))
    have r63_10 : s5.1 63 = st.1 63 := hf_8.1.1 63 (by decide)
    have r64_11 : s5.1 64 = st.1 64 := hf_8.1.1 64 (by decide)
    have r62_12 : s5.1 62 = st.1 62 := hf_8.1.1 62 (by decide)
    refine w_blk 3 (pc' := 66) (ls' := [some (.ref 53), some (.int 2), none]) (sk' := [.int (s5.1 53 17)]) (st' := s5) (fun _ h => h) ?_
    rw [hfl]
    refine w_blk 1 (pc' := 68) (ls' := [some (.ref 53), some (.int 2), none]) (sk' := [.int (-9), .int (-9)]) (st' := s5) (fun _ h => h) ?_
    refine w_cmp_eq rfl (fun _ => ?_) (fun hno => absurd rfl hno)
    refine w_blk 1 (pc' := 73) (ls' := [some (.ref 53), some (.int 2), none]) (sk' := [.int 2]) (st' := s5) (fun _ h => h) ?_
    refine w_if_ne rfl (fun _ => ?_) (fun hno => absurd (by decide) hno)
    refine w_blk 2 (pc' := 147) (ls' := [some (.ref 53), some (.int 2), none]) (sk' := [.int 1, .int 2]) (st' := s5) (fun _ h => h) ?_
    refine w_cmp_ne rfl (fun _ => ?_) (fun hno => absurd (by decide) hno)
    refine w_blk 4 (pc' := 204) (ls' := [some (.ref 53), some (.int 2), none]) (sk' := [.int 1, .ref 62, .int 8]) (st' := s5) (fun _ h => h) ?_
    refine w_iald rfl rfl (vp_in_nI (n := 1) (N := 2) (by decide) (by decide)) ?_
    rw [show Int32.toNatClampNeg (1 : Int32) = 1 from rfl]
    rw [(congrFun r62_12 1).trans hN.2.2]
    refine w_blk 1 (pc' := 206) (ls' := [some (.ref 53), some (.int 2), none]) (sk' := [.int (8 + (nI (q.n 2)))]) (st' := s5) (fun _ h => h) ?_
    rw [show (8 + (nI (q.n 2))) = nI (8 + (q.n 2)) from nI_add 8 (q.n 2)]
    refine w_blk 7 (pc' := 216) (ls' := [some (.ref 53), some (.int 2), some (.int (nI (8 + (q.n 2))))]) (sk' := [.int 99, .int 1, .ref 53, .int (nI (8 + (q.n 2))), .ref 63]) (st' := s5) (fun _ h => h) ?_
    obtain ⟨w17, s13, hc_14, hQ_15, hw_18, hf_16⟩ := m_number99 (d + 0) L b (yd1 q) s5 (MS_ff hF_9 (by decide) (by decide) hP) hb hL hQ_7
    refine w_callV (As := [.ref 53, .int 1, .int 99]) (rest := [.int (nI (8 + (q.n 2))), .ref 63]) rfl rfl rfl (Nat.le_of_ble_eq_true rfl) (Nat.le_of_ble_eq_true rfl) (by first | exact Or.inl ⟨rfl, rfl⟩ | exact Or.inr ⟨rfl, rfl⟩) hc_14 ?_
    replace hQ_15 : MQu s13 b L (yd2 (TT b L) q) := hQ_15
    have hF_19 : FF [53, 62, 63, 64] [13, 14, 15, 16, 17] st s13 := FF.trans hF_9 (FF.mono hf_16 (by decide) (by decide))
    have r63_20 : s13.1 63 = st.1 63 := (hf_16.1.1 63 (by decide)).trans r63_10
    have r64_21 : s13.1 64 = st.1 64 := (hf_16.1.1 64 (by decide)).trans r64_11
    have r62_22 : s13.1 62 = st.1 62 := (hf_16.1.1 62 (by decide)).trans r62_12
    refine w_iast rfl rfl (vp_in_nI (n := (8 + (q.n 2))) (N := 16) hix (by decide)) ?_
    rw [nI_clamp (show (8 + (q.n 2)) < 2 ^ 31 from hic)]
    have hF_24 : FF [53, 62, 63, 64] [13, 14, 15, 16, 17] st ((mU s13.1 63 (8 + (q.n 2)) (nI w17)), s13.2) := (FF.wr hF_19 (by decide) (by decide))
    have hr63__25 : (((mU s13.1 63 (8 + (q.n 2)) (nI w17)), s13.2)).1 63 = upd (st.1 63) (8 + (q.n 2)) (nI w17) := (mU_eq.trans (congrArg (fun f => upd f (8 + (q.n 2)) (nI w17)) r63_20))
    have hr64__26 : (((mU s13.1 63 (8 + (q.n 2)) (nI w17)), s13.2)).1 64 = st.1 64 := r64_21
    have hr62__27 : (((mU s13.1 63 (8 + (q.n 2)) (nI w17)), s13.2)).1 62 = st.1 62 := r62_22
    have hQ_28 : (((mU s13.1 63 (8 + (q.n 2)) (nI w17)), s13.2)).1 53 = s13.1 53 := rfl
    generalize ((mU s13.1 63 (8 + (q.n 2)) (nI w17)), s13.2) = s23 at hF_24 hr63__25 hr64__26 hr62__27 hQ_28 ⊢
    have hQ_29 := MQu_e hQ_28 hQ_15
    refine w_blk 6 (pc' := 229) (ls' := [some (.ref 53), some (.int 2), some (.int (nI (8 + (q.n 2))))]) (sk' := [.int 9, .int 1, .ref 53, .int (nI (8 + (q.n 2))), .ref 64]) (st' := s23) (fun _ h => h) ?_
    obtain ⟨w34, s30, hc_31, hQ_32, hw_35, hf_33⟩ := m_number9 (d + 0) L b (yd2 (TT b L) q) s23 (MS_ff hF_24 (by decide) (by decide) hP) hb hL hQ_29
    refine w_callV (As := [.ref 53, .int 1, .int 9]) (rest := [.int (nI (8 + (q.n 2))), .ref 64]) rfl rfl rfl (Nat.le_of_ble_eq_true rfl) (Nat.le_of_ble_eq_true rfl) (by first | exact Or.inl ⟨rfl, rfl⟩ | exact Or.inr ⟨rfl, rfl⟩) hc_31 ?_
    replace hQ_32 : MQu s30 b L (yd3 (TT b L) q) := hQ_32
    have hF_36 : FF [53, 62, 63, 64] [13, 14, 15, 16, 17] st s30 := FF.trans hF_24 (FF.mono hf_33 (by decide) (by decide))
    have r63_37 : s30.1 63 = upd (st.1 63) (8 + (q.n 2)) (nI w17) := (hf_33.1.1 63 (by decide)).trans hr63__25
    have r64_38 : s30.1 64 = st.1 64 := (hf_33.1.1 64 (by decide)).trans hr64__26
    have r62_39 : s30.1 62 = st.1 62 := (hf_33.1.1 62 (by decide)).trans hr62__27
    refine w_iast rfl rfl (vp_in_nI (n := (8 + (q.n 2))) (N := 16) hix (by decide)) ?_
    rw [nI_clamp (show (8 + (q.n 2)) < 2 ^ 31 from hic)]
    have hF_41 : FF [53, 62, 63, 64] [13, 14, 15, 16, 17] st ((mU s30.1 64 (8 + (q.n 2)) (nI w34)), s30.2) := (FF.wr hF_36 (by decide) (by decide))
    have hr63__42 : (((mU s30.1 64 (8 + (q.n 2)) (nI w34)), s30.2)).1 63 = upd (st.1 63) (8 + (q.n 2)) (nI w17) := r63_37
    have hr64__43 : (((mU s30.1 64 (8 + (q.n 2)) (nI w34)), s30.2)).1 64 = upd (st.1 64) (8 + (q.n 2)) (nI w34) := (mU_eq.trans (congrArg (fun f => upd f (8 + (q.n 2)) (nI w34)) r64_38))
    have hr62__44 : (((mU s30.1 64 (8 + (q.n 2)) (nI w34)), s30.2)).1 62 = st.1 62 := r62_39
    have hQ_45 : (((mU s30.1 64 (8 + (q.n 2)) (nI w34)), s30.2)).1 53 = s30.1 53 := rfl
    generalize ((mU s30.1 64 (8 + (q.n 2)) (nI w34)), s30.2) = s40 at hF_41 hr63__42 hr64__43 hr62__44 hQ_45 ⊢
    have hQ_46 := MQu_e hQ_45 hQ_32
    refine w_blk 4 (pc' := 239) (ls' := [some (.ref 53), some (.int 2), some (.int (nI (8 + (q.n 2))))]) (sk' := [.int 1, .ref 62, .int 1, .ref 62]) (st' := s40) (fun _ h => h) ?_
    refine w_iald rfl rfl (vp_in_nI (n := 1) (N := 2) (by decide) (by decide)) ?_
    rw [show Int32.toNatClampNeg (1 : Int32) = 1 from rfl]
    rw [(congrFun hr62__44 1).trans hN.2.2]
    refine w_blk 2 (pc' := 242) (ls' := [some (.ref 53), some (.int 2), some (.int (nI (8 + (q.n 2))))]) (sk' := [.int ((nI (q.n 2)) + 1), .int 1, .ref 62]) (st' := s40) (fun _ h => h) ?_
    rw [show ((nI (q.n 2)) + 1) = nI ((q.n 2) + 1) from nI_add (q.n 2) 1]
    refine w_iast rfl rfl (vp_in_nI (n := 1) (N := 2) (by decide) (by decide)) ?_
    rw [show Int32.toNatClampNeg (1 : Int32) = 1 from rfl]
    have hF_48 : FF [53, 62, 63, 64] [13, 14, 15, 16, 17] st ((mU s40.1 62 1 (nI ((q.n 2) + 1))), s40.2) := (FF.wr hF_41 (by decide) (by decide))
    have hr63__49 : (((mU s40.1 62 1 (nI ((q.n 2) + 1))), s40.2)).1 63 = upd (st.1 63) (8 + (q.n 2)) (nI w17) := hr63__42
    have hr64__50 : (((mU s40.1 62 1 (nI ((q.n 2) + 1))), s40.2)).1 64 = upd (st.1 64) (8 + (q.n 2)) (nI w34) := hr64__43
    have hr62__51 : (((mU s40.1 62 1 (nI ((q.n 2) + 1))), s40.2)).1 62 = upd (st.1 62) 1 (nI ((q.n 2) + 1)) := (mU_eq.trans (congrArg (fun f => upd f 1 (nI ((q.n 2) + 1))) hr62__44))
    have hQ_52 : (((mU s40.1 62 1 (nI ((q.n 2) + 1))), s40.2)).1 53 = s40.1 53 := rfl
    generalize ((mU s40.1 62 1 (nI ((q.n 2) + 1))), s40.2) = s47 at hF_48 hr63__49 hr64__50 hr62__51 hQ_52 ⊢
    have hQ_53 := MQu_e hQ_52 hQ_46
    have hT9 := TT_r b L (yd3 (TT b L) q).1
    have hk7 := srt_7 hT9.1
    have hs9 := srt_le hT9.1
    have hsr9 : s47.1 53 15 = nI (srt (TT b L (yd3 (TT b L) q).1)) := hQ_53.1.2.2.1
    obtain ⟨w9, hV9, -⟩ := hQ_53.1.2.2.2
    refine w_blk 3 (pc' := 248) (ls' := [some (.ref 53), some (.int 2), some (.int (nI (8 + (q.n 2))))]) (sk' := [.int (s47.1 53 15), .ref 53]) (st' := s47) (fun _ h => h) ?_
    rw [hsr9]
    refine w_blk 1 (pc' := 250) (ls' := [some (.ref 53), some (.int 2), some (.int (nI (8 + (q.n 2))))]) (sk' := [.int 7, .int (nI (srt (TT b L (yd3 (TT b L) q).1))), .ref 53]) (st' := s47) (fun _ h => h) ?_
    refine w_cmp_ne rfl (fun h8 => ?_) (fun h8 => ?_)
    · replace h8 : ¬ (srt (TT b L (yd3 (TT b L) q).1) = 7) := fun hh => h8 ((nI_eq (a := (srt (TT b L (yd3 (TT b L) q).1))) (b := 7) (by omega) (by omega)).mpr hh)
      refine w_blk 1 (pc' := 258) (ls' := [some (.ref 53), some (.int 2), some (.int (nI (8 + (q.n 2))))]) (sk' := [.int 0, .ref 53]) (st' := s47) (fun _ h => h) ?_
      have hok9 : (decide (TT b L (yd3 (TT b L) q).1 = 102)) = false := decide_eq_false (by omega)
      obtain ⟨s54, hc_55, hQ_56, hf_57⟩ := m_due (d + 1) L b (yd3 (TT b L) q) (decide (TT b L (yd3 (TT b L) q).1 = 102)) 0 w9 s47 (MS_ff hF_48 (by decide) (by decide) hP) hb hL hQ_53 hV9 (by rw [hok9]; rfl)
      refine w_callV (As := [.ref 53, .int 0]) (rest := []) rfl rfl rfl (Nat.le_of_ble_eq_true rfl) (Nat.le_of_ble_eq_true rfl) (by first | exact Or.inl ⟨rfl, rfl⟩ | exact Or.inr ⟨rfl, rfl⟩) hc_55 ?_
      replace hQ_56 : MQu s54 b L (yd4 (TT b L) q) := hQ_56
      have hF_58 : FF [53, 62, 63, 64] [13, 14, 15, 16, 17] st s54 := FF.trans hF_48 (FF.mono hf_57 (by decide) (by decide))
      refine w_blk 1 (pc' := 262) (ls' := [some (.ref 53), some (.int 2), some (.int (nI (8 + (q.n 2))))]) (sk' := []) (st' := s54) (fun _ h => h) ?_
      have r63_59 : s54.1 63 = upd (st.1 63) (8 + (q.n 2)) (nI w17) := (hf_57.1.1 63 (by decide)).trans hr63__49
      have r64_60 : s54.1 64 = upd (st.1 64) (8 + (q.n 2)) (nI w34) := (hf_57.1.1 64 (by decide)).trans hr64__50
      have r62_61 : s54.1 62 = upd (st.1 62) 1 (nI ((q.n 2) + 1)) := (hf_57.1.1 62 (by decide)).trans hr62__51
      have hsc := sc_Y (c := q.c) hF_58.1 (by decide) hnl r62_61 r63_59 r64_60
      refine w_vret rfl rfl (hq s54 ⟨by rw [itm_pY eY]; exact hQ_56, fun h hm => ?_, hsc.1, FF.mono hF_58 (by decide) (by decide)⟩)
      have hz : (yd4 (TT b L) q).2 = false := by rw [itm_pY eY] at h; exact h
      have hf9 := yd4_f hz
      have hv1 := hw_18 (decide_eq_true hf9.2.2.1)
      have hv2 := hw_35 (decide_eq_true hf9.2.2.2.1)
      obtain ⟨g1, g2⟩ := itm_Y eY hz
      rw [g1, g2]
      have h7 := hsc.2 hm
      rw [hv1, hv2] at h7
      exact h7
    · replace h8 : srt (TT b L (yd3 (TT b L) q).1) = 7 := (nI_eq (a := (srt (TT b L (yd3 (TT b L) q).1))) (b := 7) (by omega) (by omega)).mp (Decidable.not_not.mp h8)
      refine w_blk 2 (pc' := 258) (ls' := [some (.ref 53), some (.int 2), some (.int (nI (8 + (q.n 2))))]) (sk' := [.int 1, .ref 53]) (st' := s47) (fun _ h => h) ?_
      have hok9 : (decide (TT b L (yd3 (TT b L) q).1 = 102)) = true := decide_eq_true (by omega)
      obtain ⟨s62, hc_63, hQ_64, hf_65⟩ := m_due (d + 1) L b (yd3 (TT b L) q) (decide (TT b L (yd3 (TT b L) q).1 = 102)) 1 w9 s47 (MS_ff hF_48 (by decide) (by decide) hP) hb hL hQ_53 hV9 (by rw [hok9]; rfl)
      refine w_callV (As := [.ref 53, .int 1]) (rest := []) rfl rfl rfl (Nat.le_of_ble_eq_true rfl) (Nat.le_of_ble_eq_true rfl) (by first | exact Or.inl ⟨rfl, rfl⟩ | exact Or.inr ⟨rfl, rfl⟩) hc_63 ?_
      replace hQ_64 : MQu s62 b L (yd4 (TT b L) q) := hQ_64
      have hF_66 : FF [53, 62, 63, 64] [13, 14, 15, 16, 17] st s62 := FF.trans hF_48 (FF.mono hf_65 (by decide) (by decide))
      refine w_blk 1 (pc' := 262) (ls' := [some (.ref 53), some (.int 2), some (.int (nI (8 + (q.n 2))))]) (sk' := []) (st' := s62) (fun _ h => h) ?_
      have r63_67 : s62.1 63 = upd (st.1 63) (8 + (q.n 2)) (nI w17) := (hf_65.1.1 63 (by decide)).trans hr63__49
      have r64_68 : s62.1 64 = upd (st.1 64) (8 + (q.n 2)) (nI w34) := (hf_65.1.1 64 (by decide)).trans hr64__50
      have r62_69 : s62.1 62 = upd (st.1 62) 1 (nI ((q.n 2) + 1)) := (hf_65.1.1 62 (by decide)).trans hr62__51
      have hsc := sc_Y (c := q.c) hF_66.1 (by decide) hnl r62_69 r63_67 r64_68
      refine w_vret rfl rfl (hq s62 ⟨by rw [itm_pY eY]; exact hQ_64, fun h hm => ?_, hsc.1, FF.mono hF_66 (by decide) (by decide)⟩)
      have hz : (yd4 (TT b L) q).2 = false := by rw [itm_pY eY] at h; exact h
      have hf9 := yd4_f hz
      have hv1 := hw_18 (decide_eq_true hf9.2.2.1)
      have hv2 := hw_35 (decide_eq_true hf9.2.2.2.1)
      obtain ⟨g1, g2⟩ := itm_Y eY hz
      rw [g1, g2]
      have h7 := hsc.2 hm
      rw [hv1, hv2] at h7
      exact h7
set_option maxHeartbeats 4000000 in
set_option maxRecDepth 20000 in
/-- readItem() -/
theorem m_readItemN (d : Nat) (L : Nat) (b : Nat → Nat) (q : RQ) (st : mSt) (hP : MS st L b) (hb : ∀ j, j < L → b j < 256) (hL : L ≤ 300) (hQ : MQu st b L q.p) (hqf : q.p.2 = false) (hN : st.1 55 1 = nI (q.n 0) ∧ st.1 59 1 = nI (q.n 1) ∧ st.1 62 1 = nI (q.n 2)) (hB : CB q.n q.c) (eD : ¬ TT b L q.p.1 = 103) (eS : ¬ TT b L q.p.1 = 104) (eY : ¬ TT b L q.p.1 = 105) : ∃ (s : mSt), mMC mT (d + 5) 139 [.ref 53] st (none) s ∧ MQu s b L (itm (TT b L) q).p ∧ ((itm (TT b L) q).p.2 = false → MSc st q.n q.c → MSc s (itm (TT b L) q).n (itm (TT b L) q).c) ∧ MRl st s ∧ FF [53, 55, 56, 57, 58, 59, 60, 61, 62, 63, 64] [13, 14, 15, 16, 17] st s := by
  suffices H : ∀ Q : Option Value → mSt → Prop, (∀ (s : mSt), (MQu s b L (itm (TT b L) q).p ∧ ((itm (TT b L) q).p.2 = false → MSc st q.n q.c → MSc s (itm (TT b L) q).n (itm (TT b L) q).c) ∧ MRl st s ∧ FF [53, 55, 56, 57, 58, 59, 60, 61, 62, 63, 64] [13, 14, 15, 16, 17] st s) → Q (none) s) → mW (mMC mT (d + 4)) (0, fun _ => 0) (mAtL P_X10_readItem) none Q 0 [some (.ref 53), none, none] [] st by
    obtain ⟨_, _, ⟨s, rfl, rfl, hp⟩, hw⟩ := mW_ex (H (fun vv tt => ∃ (s : mSt),  vv = none ∧ s = tt ∧ MQu s b L (itm (TT b L) q).p ∧ ((itm (TT b L) q).p.2 = false → MSc st q.n q.c → MSc s (itm (TT b L) q).n (itm (TT b L) q).c) ∧ MRl st s ∧ FF [53, 55, 56, 57, 58, 59, 60, 61, 62, 63, 64] [13, 14, 15, 16, 17] st s) (fun s hp => ⟨s, rfl, rfl, hp⟩))
    exact ⟨s, mI_X10_readItem (d := d + 4) (Nat.le_of_ble_eq_true rfl) hw, hp⟩
  intro Q hq
  obtain ⟨hb0, hb1, hb2, -⟩ := id hB
  have hpl := ps_le b L q.p.1
  obtain ⟨w0, hV, -⟩ := hQ.1.2.2.2
  have hT := TT_r b L q.p.1
  have hs8 := srt_le hT.1
  have hsr : st.1 53 15 = nI (srt (TT b L q.p.1)) := hQ.1.2.2.1
  have hsr2 := hsr
  have hk0 := srt_k hT.1 0 (by decide)
  have hk1 := srt_k hT.1 1 (by decide)
  have hk2 := srt_k hT.1 2 (by decide)
  refine w_blk 2 (pc' := 4) (ls' := [some (.ref 53), none, none]) (sk' := [.int (st.1 53 15)]) (st' := st) (fun _ h => h) ?_
  rw [hsr2]
  refine w_blk 3 (pc' := 7) (ls' := [some (.ref 53), some (.int (nI (srt (TT b L q.p.1)))), none]) (sk' := [.int (nI (srt (TT b L q.p.1))), .ref 53]) (st' := st) (fun _ h => h) ?_
  refine w_if_ne rfl (fun h1 => ?_) (fun h1 => ?_)
  · replace h1 : ¬ (srt (TT b L q.p.1) = 0) := fun hh => h1 ((nI_eq (a := (srt (TT b L q.p.1))) (b := 0) (by omega) (by omega)).mpr hh)
    refine w_blk 2 (pc' := 23) (ls' := [some (.ref 53), some (.int (nI (srt (TT b L q.p.1)))), none]) (sk' := [.int 1, .int (nI (srt (TT b L q.p.1))), .ref 53]) (st' := st) (fun _ h => h) ?_
    refine w_cmp_ne rfl (fun h2 => ?_) (fun h2 => ?_)
    · replace h2 : ¬ (srt (TT b L q.p.1) = 1) := fun hh => h2 ((nI_eq (a := (srt (TT b L q.p.1))) (b := 1) (by omega) (by omega)).mpr hh)
      refine w_blk 2 (pc' := 39) (ls' := [some (.ref 53), some (.int (nI (srt (TT b L q.p.1)))), none]) (sk' := [.int 2, .int (nI (srt (TT b L q.p.1))), .ref 53]) (st' := st) (fun _ h => h) ?_
      refine w_cmp_ne rfl (fun h3 => ?_) (fun h3 => ?_)
      · replace h3 : ¬ (srt (TT b L q.p.1) = 2) := fun hh => h3 ((nI_eq (a := (srt (TT b L q.p.1))) (b := 2) (by omega) (by omega)).mpr hh)
        refine w_blk 1 (pc' := 58) (ls' := [some (.ref 53), some (.int (nI (srt (TT b L q.p.1)))), none]) (sk' := [.int 0, .ref 53]) (st' := st) (fun _ h => h) ?_
        have hok : false = false := rfl
        obtain ⟨s1, hc_2, hQ_3, hf_4⟩ := m_due (d + 1) L b q.p false 0 w0 st (MS_ff (FF.rf : FF [53] [13] st st) (by decide) (by decide) hP) hb hL hQ hV (by rw [hok]; rfl)
        refine w_callV (As := [.ref 53, .int 0]) (rest := []) rfl rfl rfl (Nat.le_of_ble_eq_true rfl) (Nat.le_of_ble_eq_true rfl) (by first | exact Or.inl ⟨rfl, rfl⟩ | exact Or.inr ⟨rfl, rfl⟩) hc_2 ?_
        rw [adv_no hqf hok] at hQ_3
        have hfl : s1.1 53 17 = nI (ps b L q.p.1) := hQ_3.2
        refine w_blk 3 (pc' := 66) (ls' := [some (.ref 53), some (.int (nI (srt (TT b L q.p.1)))), none]) (sk' := [.int (s1.1 53 17)]) (st' := s1) (fun _ h => h) ?_
        rw [hfl]
        refine w_blk 1 (pc' := 68) (ls' := [some (.ref 53), some (.int (nI (srt (TT b L q.p.1)))), none]) (sk' := [.int (-9), .int (nI (ps b L q.p.1))]) (st' := s1) (fun _ h => h) ?_
        refine w_cmp_eq rfl (fun hno => absurd hno (nI9 (by omega))) (fun _ => ?_)
        have hit : (itm (TT b L) q).p = (q.p.1, true) := itm_pN ⟨eD, eS, eY⟩
        exact w_vret rfl rfl (hq s1 ⟨by rw [hit]; exact hQ_3, fun h => absurd h (by rw [hit]; exact fun e => Bool.noConfusion e), MRl.fr hf_4.1 (by decide), FF.mono hf_4 (by decide) (by decide)⟩)
      · replace h3 : srt (TT b L q.p.1) = 2 := (nI_eq (a := (srt (TT b L q.p.1))) (b := 2) (by omega) (by omega)).mp (Decidable.not_not.mp h3)
        refine w_blk 3 (pc' := 47) (ls' := [some (.ref 53), some (.int (nI (srt (TT b L q.p.1)))), none]) (sk' := [.int 1, .ref 62, .ref 53]) (st' := st) (fun _ h => h) ?_
        refine w_iald rfl rfl (vp_in_nI (n := 1) (N := 2) (by decide) (by decide)) ?_
        rw [show Int32.toNatClampNeg (1 : Int32) = 1 from rfl]
        rw [hN.2.2]
        refine w_blk 1 (pc' := 50) (ls' := [some (.ref 53), some (.int (nI (srt (TT b L q.p.1)))), none]) (sk' := [.int 8, .int (nI (q.n 2)), .ref 53]) (st' := st) (fun _ h => h) ?_
        refine w_cmp_ge rfl (fun h4 => ?_) (fun h4 => ?_)
        · replace h4 : 8 ≤ q.n 2 := (nI_leI (a := 8) (b := (q.n 2)) (by omega) (by omega)).mp h4
          refine w_blk 1 (pc' := 58) (ls' := [some (.ref 53), some (.int (nI (srt (TT b L q.p.1)))), none]) (sk' := [.int 0, .ref 53]) (st' := st) (fun _ h => h) ?_
          have hok : false = false := rfl
          obtain ⟨s5, hc_6, hQ_7, hf_8⟩ := m_due (d + 1) L b q.p false 0 w0 st (MS_ff (FF.rf : FF [53] [13] st st) (by decide) (by decide) hP) hb hL hQ hV (by rw [hok]; rfl)
          refine w_callV (As := [.ref 53, .int 0]) (rest := []) rfl rfl rfl (Nat.le_of_ble_eq_true rfl) (Nat.le_of_ble_eq_true rfl) (by first | exact Or.inl ⟨rfl, rfl⟩ | exact Or.inr ⟨rfl, rfl⟩) hc_6 ?_
          rw [adv_no hqf hok] at hQ_7
          have hfl : s5.1 53 17 = nI (ps b L q.p.1) := hQ_7.2
          refine w_blk 3 (pc' := 66) (ls' := [some (.ref 53), some (.int (nI (srt (TT b L q.p.1)))), none]) (sk' := [.int (s5.1 53 17)]) (st' := s5) (fun _ h => h) ?_
          rw [hfl]
          refine w_blk 1 (pc' := 68) (ls' := [some (.ref 53), some (.int (nI (srt (TT b L q.p.1)))), none]) (sk' := [.int (-9), .int (nI (ps b L q.p.1))]) (st' := s5) (fun _ h => h) ?_
          refine w_cmp_eq rfl (fun hno => absurd hno (nI9 (by omega))) (fun _ => ?_)
          have hit : (itm (TT b L) q).p = (q.p.1, true) := itm_pN ⟨eD, eS, eY⟩
          exact w_vret rfl rfl (hq s5 ⟨by rw [hit]; exact hQ_7, fun h => absurd h (by rw [hit]; exact fun e => Bool.noConfusion e), MRl.fr hf_8.1 (by decide), FF.mono hf_8 (by decide) (by decide)⟩)
        · replace h4 : ¬ (8 ≤ q.n 2) := fun hh => h4 ((nI_leI (a := 8) (b := (q.n 2)) (by omega) (by omega)).mpr hh)
          refine w_blk 2 (pc' := 58) (ls' := [some (.ref 53), some (.int (nI (srt (TT b L q.p.1)))), none]) (sk' := [.int 1, .ref 53]) (st' := st) (fun _ h => h) ?_
          exfalso; omega
    · replace h2 : srt (TT b L q.p.1) = 1 := (nI_eq (a := (srt (TT b L q.p.1))) (b := 1) (by omega) (by omega)).mp (Decidable.not_not.mp h2)
      refine w_blk 3 (pc' := 31) (ls' := [some (.ref 53), some (.int (nI (srt (TT b L q.p.1)))), none]) (sk' := [.int 1, .ref 59, .ref 53]) (st' := st) (fun _ h => h) ?_
      refine w_iald rfl rfl (vp_in_nI (n := 1) (N := 2) (by decide) (by decide)) ?_
      rw [show Int32.toNatClampNeg (1 : Int32) = 1 from rfl]
      rw [hN.2.1]
      refine w_blk 1 (pc' := 34) (ls' := [some (.ref 53), some (.int (nI (srt (TT b L q.p.1)))), none]) (sk' := [.int 8, .int (nI (q.n 1)), .ref 53]) (st' := st) (fun _ h => h) ?_
      refine w_cmp_lt rfl (fun h3 => ?_) (fun h3 => ?_)
      · replace h3 : q.n 1 < 8 := (nI_ltI (a := (q.n 1)) (b := 8) (by omega) (by omega)).mp h3
        refine w_blk 2 (pc' := 58) (ls' := [some (.ref 53), some (.int (nI (srt (TT b L q.p.1)))), none]) (sk' := [.int 1, .ref 53]) (st' := st) (fun _ h => h) ?_
        exfalso; omega
      · replace h3 : ¬ (q.n 1 < 8) := fun hh => h3 ((nI_ltI (a := (q.n 1)) (b := 8) (by omega) (by omega)).mpr hh)
        refine w_blk 2 (pc' := 39) (ls' := [some (.ref 53), some (.int (nI (srt (TT b L q.p.1)))), none]) (sk' := [.int 2, .int (nI (srt (TT b L q.p.1))), .ref 53]) (st' := st) (fun _ h => h) ?_
        refine w_cmp_ne rfl (fun h4 => ?_) (fun h4 => ?_)
        · replace h4 : ¬ (srt (TT b L q.p.1) = 2) := fun hh => h4 ((nI_eq (a := (srt (TT b L q.p.1))) (b := 2) (by omega) (by omega)).mpr hh)
          refine w_blk 1 (pc' := 58) (ls' := [some (.ref 53), some (.int (nI (srt (TT b L q.p.1)))), none]) (sk' := [.int 0, .ref 53]) (st' := st) (fun _ h => h) ?_
          have hok : false = false := rfl
          obtain ⟨s9, hc_10, hQ_11, hf_12⟩ := m_due (d + 1) L b q.p false 0 w0 st (MS_ff (FF.rf : FF [53] [13] st st) (by decide) (by decide) hP) hb hL hQ hV (by rw [hok]; rfl)
          refine w_callV (As := [.ref 53, .int 0]) (rest := []) rfl rfl rfl (Nat.le_of_ble_eq_true rfl) (Nat.le_of_ble_eq_true rfl) (by first | exact Or.inl ⟨rfl, rfl⟩ | exact Or.inr ⟨rfl, rfl⟩) hc_10 ?_
          rw [adv_no hqf hok] at hQ_11
          have hfl : s9.1 53 17 = nI (ps b L q.p.1) := hQ_11.2
          refine w_blk 3 (pc' := 66) (ls' := [some (.ref 53), some (.int (nI (srt (TT b L q.p.1)))), none]) (sk' := [.int (s9.1 53 17)]) (st' := s9) (fun _ h => h) ?_
          rw [hfl]
          refine w_blk 1 (pc' := 68) (ls' := [some (.ref 53), some (.int (nI (srt (TT b L q.p.1)))), none]) (sk' := [.int (-9), .int (nI (ps b L q.p.1))]) (st' := s9) (fun _ h => h) ?_
          refine w_cmp_eq rfl (fun hno => absurd hno (nI9 (by omega))) (fun _ => ?_)
          have hit : (itm (TT b L) q).p = (q.p.1, true) := itm_pN ⟨eD, eS, eY⟩
          exact w_vret rfl rfl (hq s9 ⟨by rw [hit]; exact hQ_11, fun h => absurd h (by rw [hit]; exact fun e => Bool.noConfusion e), MRl.fr hf_12.1 (by decide), FF.mono hf_12 (by decide) (by decide)⟩)
        · replace h4 : srt (TT b L q.p.1) = 2 := (nI_eq (a := (srt (TT b L q.p.1))) (b := 2) (by omega) (by omega)).mp (Decidable.not_not.mp h4)
          refine w_blk 3 (pc' := 47) (ls' := [some (.ref 53), some (.int (nI (srt (TT b L q.p.1)))), none]) (sk' := [.int 1, .ref 62, .ref 53]) (st' := st) (fun _ h => h) ?_
          refine w_iald rfl rfl (vp_in_nI (n := 1) (N := 2) (by decide) (by decide)) ?_
          rw [show Int32.toNatClampNeg (1 : Int32) = 1 from rfl]
          rw [hN.2.2]
          refine w_blk 1 (pc' := 50) (ls' := [some (.ref 53), some (.int (nI (srt (TT b L q.p.1)))), none]) (sk' := [.int 8, .int (nI (q.n 2)), .ref 53]) (st' := st) (fun _ h => h) ?_
          refine w_cmp_ge rfl (fun h5 => ?_) (fun h5 => ?_)
          · replace h5 : 8 ≤ q.n 2 := (nI_leI (a := 8) (b := (q.n 2)) (by omega) (by omega)).mp h5
            refine w_blk 1 (pc' := 58) (ls' := [some (.ref 53), some (.int (nI (srt (TT b L q.p.1)))), none]) (sk' := [.int 0, .ref 53]) (st' := st) (fun _ h => h) ?_
            have hok : false = false := rfl
            obtain ⟨s13, hc_14, hQ_15, hf_16⟩ := m_due (d + 1) L b q.p false 0 w0 st (MS_ff (FF.rf : FF [53] [13] st st) (by decide) (by decide) hP) hb hL hQ hV (by rw [hok]; rfl)
            refine w_callV (As := [.ref 53, .int 0]) (rest := []) rfl rfl rfl (Nat.le_of_ble_eq_true rfl) (Nat.le_of_ble_eq_true rfl) (by first | exact Or.inl ⟨rfl, rfl⟩ | exact Or.inr ⟨rfl, rfl⟩) hc_14 ?_
            rw [adv_no hqf hok] at hQ_15
            have hfl : s13.1 53 17 = nI (ps b L q.p.1) := hQ_15.2
            refine w_blk 3 (pc' := 66) (ls' := [some (.ref 53), some (.int (nI (srt (TT b L q.p.1)))), none]) (sk' := [.int (s13.1 53 17)]) (st' := s13) (fun _ h => h) ?_
            rw [hfl]
            refine w_blk 1 (pc' := 68) (ls' := [some (.ref 53), some (.int (nI (srt (TT b L q.p.1)))), none]) (sk' := [.int (-9), .int (nI (ps b L q.p.1))]) (st' := s13) (fun _ h => h) ?_
            refine w_cmp_eq rfl (fun hno => absurd hno (nI9 (by omega))) (fun _ => ?_)
            have hit : (itm (TT b L) q).p = (q.p.1, true) := itm_pN ⟨eD, eS, eY⟩
            exact w_vret rfl rfl (hq s13 ⟨by rw [hit]; exact hQ_15, fun h => absurd h (by rw [hit]; exact fun e => Bool.noConfusion e), MRl.fr hf_16.1 (by decide), FF.mono hf_16 (by decide) (by decide)⟩)
          · replace h5 : ¬ (8 ≤ q.n 2) := fun hh => h5 ((nI_leI (a := 8) (b := (q.n 2)) (by omega) (by omega)).mpr hh)
            refine w_blk 2 (pc' := 58) (ls' := [some (.ref 53), some (.int (nI (srt (TT b L q.p.1)))), none]) (sk' := [.int 1, .ref 53]) (st' := st) (fun _ h => h) ?_
            exfalso; omega
  · replace h1 : srt (TT b L q.p.1) = 0 := (nI_eq (a := (srt (TT b L q.p.1))) (b := 0) (by omega) (by omega)).mp (Decidable.not_not.mp h1)
    refine w_blk 3 (pc' := 15) (ls' := [some (.ref 53), some (.int (nI (srt (TT b L q.p.1)))), none]) (sk' := [.int 1, .ref 55, .ref 53]) (st' := st) (fun _ h => h) ?_
    refine w_iald rfl rfl (vp_in_nI (n := 1) (N := 2) (by decide) (by decide)) ?_
    rw [show Int32.toNatClampNeg (1 : Int32) = 1 from rfl]
    rw [hN.1]
    refine w_blk 1 (pc' := 18) (ls' := [some (.ref 53), some (.int (nI (srt (TT b L q.p.1)))), none]) (sk' := [.int 6, .int (nI (q.n 0)), .ref 53]) (st' := st) (fun _ h => h) ?_
    refine w_cmp_lt rfl (fun h2 => ?_) (fun h2 => ?_)
    · replace h2 : q.n 0 < 6 := (nI_ltI (a := (q.n 0)) (b := 6) (by omega) (by omega)).mp h2
      refine w_blk 2 (pc' := 58) (ls' := [some (.ref 53), some (.int (nI (srt (TT b L q.p.1)))), none]) (sk' := [.int 1, .ref 53]) (st' := st) (fun _ h => h) ?_
      exfalso; omega
    · replace h2 : ¬ (q.n 0 < 6) := fun hh => h2 ((nI_ltI (a := (q.n 0)) (b := 6) (by omega) (by omega)).mpr hh)
      refine w_blk 2 (pc' := 23) (ls' := [some (.ref 53), some (.int (nI (srt (TT b L q.p.1)))), none]) (sk' := [.int 1, .int (nI (srt (TT b L q.p.1))), .ref 53]) (st' := st) (fun _ h => h) ?_
      refine w_cmp_ne rfl (fun h3 => ?_) (fun h3 => ?_)
      · replace h3 : ¬ (srt (TT b L q.p.1) = 1) := fun hh => h3 ((nI_eq (a := (srt (TT b L q.p.1))) (b := 1) (by omega) (by omega)).mpr hh)
        refine w_blk 2 (pc' := 39) (ls' := [some (.ref 53), some (.int (nI (srt (TT b L q.p.1)))), none]) (sk' := [.int 2, .int (nI (srt (TT b L q.p.1))), .ref 53]) (st' := st) (fun _ h => h) ?_
        refine w_cmp_ne rfl (fun h4 => ?_) (fun h4 => ?_)
        · replace h4 : ¬ (srt (TT b L q.p.1) = 2) := fun hh => h4 ((nI_eq (a := (srt (TT b L q.p.1))) (b := 2) (by omega) (by omega)).mpr hh)
          refine w_blk 1 (pc' := 58) (ls' := [some (.ref 53), some (.int (nI (srt (TT b L q.p.1)))), none]) (sk' := [.int 0, .ref 53]) (st' := st) (fun _ h => h) ?_
          have hok : false = false := rfl
          obtain ⟨s17, hc_18, hQ_19, hf_20⟩ := m_due (d + 1) L b q.p false 0 w0 st (MS_ff (FF.rf : FF [53] [13] st st) (by decide) (by decide) hP) hb hL hQ hV (by rw [hok]; rfl)
          refine w_callV (As := [.ref 53, .int 0]) (rest := []) rfl rfl rfl (Nat.le_of_ble_eq_true rfl) (Nat.le_of_ble_eq_true rfl) (by first | exact Or.inl ⟨rfl, rfl⟩ | exact Or.inr ⟨rfl, rfl⟩) hc_18 ?_
          rw [adv_no hqf hok] at hQ_19
          have hfl : s17.1 53 17 = nI (ps b L q.p.1) := hQ_19.2
          refine w_blk 3 (pc' := 66) (ls' := [some (.ref 53), some (.int (nI (srt (TT b L q.p.1)))), none]) (sk' := [.int (s17.1 53 17)]) (st' := s17) (fun _ h => h) ?_
          rw [hfl]
          refine w_blk 1 (pc' := 68) (ls' := [some (.ref 53), some (.int (nI (srt (TT b L q.p.1)))), none]) (sk' := [.int (-9), .int (nI (ps b L q.p.1))]) (st' := s17) (fun _ h => h) ?_
          refine w_cmp_eq rfl (fun hno => absurd hno (nI9 (by omega))) (fun _ => ?_)
          have hit : (itm (TT b L) q).p = (q.p.1, true) := itm_pN ⟨eD, eS, eY⟩
          exact w_vret rfl rfl (hq s17 ⟨by rw [hit]; exact hQ_19, fun h => absurd h (by rw [hit]; exact fun e => Bool.noConfusion e), MRl.fr hf_20.1 (by decide), FF.mono hf_20 (by decide) (by decide)⟩)
        · replace h4 : srt (TT b L q.p.1) = 2 := (nI_eq (a := (srt (TT b L q.p.1))) (b := 2) (by omega) (by omega)).mp (Decidable.not_not.mp h4)
          refine w_blk 3 (pc' := 47) (ls' := [some (.ref 53), some (.int (nI (srt (TT b L q.p.1)))), none]) (sk' := [.int 1, .ref 62, .ref 53]) (st' := st) (fun _ h => h) ?_
          refine w_iald rfl rfl (vp_in_nI (n := 1) (N := 2) (by decide) (by decide)) ?_
          rw [show Int32.toNatClampNeg (1 : Int32) = 1 from rfl]
          rw [hN.2.2]
          refine w_blk 1 (pc' := 50) (ls' := [some (.ref 53), some (.int (nI (srt (TT b L q.p.1)))), none]) (sk' := [.int 8, .int (nI (q.n 2)), .ref 53]) (st' := st) (fun _ h => h) ?_
          refine w_cmp_ge rfl (fun h5 => ?_) (fun h5 => ?_)
          · replace h5 : 8 ≤ q.n 2 := (nI_leI (a := 8) (b := (q.n 2)) (by omega) (by omega)).mp h5
            refine w_blk 1 (pc' := 58) (ls' := [some (.ref 53), some (.int (nI (srt (TT b L q.p.1)))), none]) (sk' := [.int 0, .ref 53]) (st' := st) (fun _ h => h) ?_
            have hok : false = false := rfl
            obtain ⟨s21, hc_22, hQ_23, hf_24⟩ := m_due (d + 1) L b q.p false 0 w0 st (MS_ff (FF.rf : FF [53] [13] st st) (by decide) (by decide) hP) hb hL hQ hV (by rw [hok]; rfl)
            refine w_callV (As := [.ref 53, .int 0]) (rest := []) rfl rfl rfl (Nat.le_of_ble_eq_true rfl) (Nat.le_of_ble_eq_true rfl) (by first | exact Or.inl ⟨rfl, rfl⟩ | exact Or.inr ⟨rfl, rfl⟩) hc_22 ?_
            rw [adv_no hqf hok] at hQ_23
            have hfl : s21.1 53 17 = nI (ps b L q.p.1) := hQ_23.2
            refine w_blk 3 (pc' := 66) (ls' := [some (.ref 53), some (.int (nI (srt (TT b L q.p.1)))), none]) (sk' := [.int (s21.1 53 17)]) (st' := s21) (fun _ h => h) ?_
            rw [hfl]
            refine w_blk 1 (pc' := 68) (ls' := [some (.ref 53), some (.int (nI (srt (TT b L q.p.1)))), none]) (sk' := [.int (-9), .int (nI (ps b L q.p.1))]) (st' := s21) (fun _ h => h) ?_
            refine w_cmp_eq rfl (fun hno => absurd hno (nI9 (by omega))) (fun _ => ?_)
            have hit : (itm (TT b L) q).p = (q.p.1, true) := itm_pN ⟨eD, eS, eY⟩
            exact w_vret rfl rfl (hq s21 ⟨by rw [hit]; exact hQ_23, fun h => absurd h (by rw [hit]; exact fun e => Bool.noConfusion e), MRl.fr hf_24.1 (by decide), FF.mono hf_24 (by decide) (by decide)⟩)
          · replace h5 : ¬ (8 ≤ q.n 2) := fun hh => h5 ((nI_leI (a := 8) (b := (q.n 2)) (by omega) (by omega)).mpr hh)
            refine w_blk 2 (pc' := 58) (ls' := [some (.ref 53), some (.int (nI (srt (TT b L q.p.1)))), none]) (sk' := [.int 1, .ref 53]) (st' := st) (fun _ h => h) ?_
            exfalso; omega
      · replace h3 : srt (TT b L q.p.1) = 1 := (nI_eq (a := (srt (TT b L q.p.1))) (b := 1) (by omega) (by omega)).mp (Decidable.not_not.mp h3)
        refine w_blk 3 (pc' := 31) (ls' := [some (.ref 53), some (.int (nI (srt (TT b L q.p.1)))), none]) (sk' := [.int 1, .ref 59, .ref 53]) (st' := st) (fun _ h => h) ?_
        refine w_iald rfl rfl (vp_in_nI (n := 1) (N := 2) (by decide) (by decide)) ?_
        rw [show Int32.toNatClampNeg (1 : Int32) = 1 from rfl]
        rw [hN.2.1]
        refine w_blk 1 (pc' := 34) (ls' := [some (.ref 53), some (.int (nI (srt (TT b L q.p.1)))), none]) (sk' := [.int 8, .int (nI (q.n 1)), .ref 53]) (st' := st) (fun _ h => h) ?_
        refine w_cmp_lt rfl (fun h4 => ?_) (fun h4 => ?_)
        · replace h4 : q.n 1 < 8 := (nI_ltI (a := (q.n 1)) (b := 8) (by omega) (by omega)).mp h4
          refine w_blk 2 (pc' := 58) (ls' := [some (.ref 53), some (.int (nI (srt (TT b L q.p.1)))), none]) (sk' := [.int 1, .ref 53]) (st' := st) (fun _ h => h) ?_
          exfalso; omega
        · replace h4 : ¬ (q.n 1 < 8) := fun hh => h4 ((nI_ltI (a := (q.n 1)) (b := 8) (by omega) (by omega)).mpr hh)
          refine w_blk 2 (pc' := 39) (ls' := [some (.ref 53), some (.int (nI (srt (TT b L q.p.1)))), none]) (sk' := [.int 2, .int (nI (srt (TT b L q.p.1))), .ref 53]) (st' := st) (fun _ h => h) ?_
          refine w_cmp_ne rfl (fun h5 => ?_) (fun h5 => ?_)
          · replace h5 : ¬ (srt (TT b L q.p.1) = 2) := fun hh => h5 ((nI_eq (a := (srt (TT b L q.p.1))) (b := 2) (by omega) (by omega)).mpr hh)
            refine w_blk 1 (pc' := 58) (ls' := [some (.ref 53), some (.int (nI (srt (TT b L q.p.1)))), none]) (sk' := [.int 0, .ref 53]) (st' := st) (fun _ h => h) ?_
            have hok : false = false := rfl
            obtain ⟨s25, hc_26, hQ_27, hf_28⟩ := m_due (d + 1) L b q.p false 0 w0 st (MS_ff (FF.rf : FF [53] [13] st st) (by decide) (by decide) hP) hb hL hQ hV (by rw [hok]; rfl)
            refine w_callV (As := [.ref 53, .int 0]) (rest := []) rfl rfl rfl (Nat.le_of_ble_eq_true rfl) (Nat.le_of_ble_eq_true rfl) (by first | exact Or.inl ⟨rfl, rfl⟩ | exact Or.inr ⟨rfl, rfl⟩) hc_26 ?_
            rw [adv_no hqf hok] at hQ_27
            have hfl : s25.1 53 17 = nI (ps b L q.p.1) := hQ_27.2
            refine w_blk 3 (pc' := 66) (ls' := [some (.ref 53), some (.int (nI (srt (TT b L q.p.1)))), none]) (sk' := [.int (s25.1 53 17)]) (st' := s25) (fun _ h => h) ?_
            rw [hfl]
            refine w_blk 1 (pc' := 68) (ls' := [some (.ref 53), some (.int (nI (srt (TT b L q.p.1)))), none]) (sk' := [.int (-9), .int (nI (ps b L q.p.1))]) (st' := s25) (fun _ h => h) ?_
            refine w_cmp_eq rfl (fun hno => absurd hno (nI9 (by omega))) (fun _ => ?_)
            have hit : (itm (TT b L) q).p = (q.p.1, true) := itm_pN ⟨eD, eS, eY⟩
            exact w_vret rfl rfl (hq s25 ⟨by rw [hit]; exact hQ_27, fun h => absurd h (by rw [hit]; exact fun e => Bool.noConfusion e), MRl.fr hf_28.1 (by decide), FF.mono hf_28 (by decide) (by decide)⟩)
          · replace h5 : srt (TT b L q.p.1) = 2 := (nI_eq (a := (srt (TT b L q.p.1))) (b := 2) (by omega) (by omega)).mp (Decidable.not_not.mp h5)
            refine w_blk 3 (pc' := 47) (ls' := [some (.ref 53), some (.int (nI (srt (TT b L q.p.1)))), none]) (sk' := [.int 1, .ref 62, .ref 53]) (st' := st) (fun _ h => h) ?_
            refine w_iald rfl rfl (vp_in_nI (n := 1) (N := 2) (by decide) (by decide)) ?_
            rw [show Int32.toNatClampNeg (1 : Int32) = 1 from rfl]
            rw [hN.2.2]
            refine w_blk 1 (pc' := 50) (ls' := [some (.ref 53), some (.int (nI (srt (TT b L q.p.1)))), none]) (sk' := [.int 8, .int (nI (q.n 2)), .ref 53]) (st' := st) (fun _ h => h) ?_
            refine w_cmp_ge rfl (fun h6 => ?_) (fun h6 => ?_)
            · replace h6 : 8 ≤ q.n 2 := (nI_leI (a := 8) (b := (q.n 2)) (by omega) (by omega)).mp h6
              refine w_blk 1 (pc' := 58) (ls' := [some (.ref 53), some (.int (nI (srt (TT b L q.p.1)))), none]) (sk' := [.int 0, .ref 53]) (st' := st) (fun _ h => h) ?_
              have hok : false = false := rfl
              obtain ⟨s29, hc_30, hQ_31, hf_32⟩ := m_due (d + 1) L b q.p false 0 w0 st (MS_ff (FF.rf : FF [53] [13] st st) (by decide) (by decide) hP) hb hL hQ hV (by rw [hok]; rfl)
              refine w_callV (As := [.ref 53, .int 0]) (rest := []) rfl rfl rfl (Nat.le_of_ble_eq_true rfl) (Nat.le_of_ble_eq_true rfl) (by first | exact Or.inl ⟨rfl, rfl⟩ | exact Or.inr ⟨rfl, rfl⟩) hc_30 ?_
              rw [adv_no hqf hok] at hQ_31
              have hfl : s29.1 53 17 = nI (ps b L q.p.1) := hQ_31.2
              refine w_blk 3 (pc' := 66) (ls' := [some (.ref 53), some (.int (nI (srt (TT b L q.p.1)))), none]) (sk' := [.int (s29.1 53 17)]) (st' := s29) (fun _ h => h) ?_
              rw [hfl]
              refine w_blk 1 (pc' := 68) (ls' := [some (.ref 53), some (.int (nI (srt (TT b L q.p.1)))), none]) (sk' := [.int (-9), .int (nI (ps b L q.p.1))]) (st' := s29) (fun _ h => h) ?_
              refine w_cmp_eq rfl (fun hno => absurd hno (nI9 (by omega))) (fun _ => ?_)
              have hit : (itm (TT b L) q).p = (q.p.1, true) := itm_pN ⟨eD, eS, eY⟩
              exact w_vret rfl rfl (hq s29 ⟨by rw [hit]; exact hQ_31, fun h => absurd h (by rw [hit]; exact fun e => Bool.noConfusion e), MRl.fr hf_32.1 (by decide), FF.mono hf_32 (by decide) (by decide)⟩)
            · replace h6 : ¬ (8 ≤ q.n 2) := fun hh => h6 ((nI_leI (a := 8) (b := (q.n 2)) (by omega) (by omega)).mpr hh)
              refine w_blk 2 (pc' := 58) (ls' := [some (.ref 53), some (.int (nI (srt (TT b L q.p.1)))), none]) (sk' := [.int 1, .ref 53]) (st' := st) (fun _ h => h) ?_
              exfalso; omega
/-- readItem() -/
theorem m_readItem (d : Nat) (L : Nat) (b : Nat → Nat) (q : RQ) (st : mSt) (hP : MS st L b) (hb : ∀ j, j < L → b j < 256) (hL : L ≤ 300) (hQ : MQu st b L q.p) (hqf : q.p.2 = false) (hN : st.1 55 1 = nI (q.n 0) ∧ st.1 59 1 = nI (q.n 1) ∧ st.1 62 1 = nI (q.n 2)) (hB : CB q.n q.c) : ∃ (s : mSt), mMC mT (d + 5) 139 [.ref 53] st none s ∧ MQu s b L (itm (TT b L) q).p ∧ ((itm (TT b L) q).p.2 = false → MSc st q.n q.c → MSc s (itm (TT b L) q).n (itm (TT b L) q).c) ∧ MRl st s ∧ FF [53, 55, 56, 57, 58, 59, 60, 61, 62, 63, 64] [13, 14, 15, 16, 17] st s := by
  by_cases eD : TT b L q.p.1 = 103
  · exact m_readItemD d L b q st hP hb hL hQ hqf hN hB eD
  by_cases eS : TT b L q.p.1 = 104
  · exact m_readItemS d L b q st hP hb hL hQ hqf hN hB eS
  by_cases eY : TT b L q.p.1 = 105
  · exact m_readItemY d L b q st hP hb hL hQ hqf hN hB eY
  exact m_readItemN d L b q st hP hb hL hQ hqf hN hB eD eS eY
