/-! GANG of the model -/
def gA (b : Nat → Nat) (L : Nat) (q : RQ) : Int32 := if q.p.2 = true then -10 - nI (ps b L q.p.1) else nI (tot q)
def cpL (p w k : Nat) (s0 s1 : mSt) : Prop := (∀ j, j < k → s1.1 p j = s0.1 p (w + j)) ∧ ∀ j, k ≤ j → s1.1 p j = s0.1 p j
theorem cpL_s {p w k : Nat} {s0 s1 s2 : mSt} (h : cpL p w k s0 s1) (e : s2.1 p = upd (s1.1 p) k (s1.1 p (w + k))) : cpL p w (k + 1) s0 s2 := by
  refine ⟨fun j hj => ?_, fun j hj => ?_⟩
  · rw [e]
    by_cases ej : j = k
    · rw [ej, up0]
      exact h.2 (w + k) (by omega)
    · rw [up1 ej]
      exact h.1 j (by omega)
  · rw [e, up1 (by omega)]
    exact h.2 j (by omega)
theorem cpL_0 {p w : Nat} {s0 s1 : mSt} (e : s1.1 p = s0.1 p) : cpL p w 0 s0 s1 := ⟨fun j hj => absurd hj (Nat.not_lt_zero _), fun j _ => by rw [e]⟩
theorem cpL_e {p w k : Nat} {s0 s1 s2 : mSt} (h : cpL p w k s0 s1) (e : s2.1 p = s1.1 p) : cpL p w k s0 s2 := ⟨fun j hj => by rw [e]; exact h.1 j hj, fun j hj => by rw [e]; exact h.2 j hj⟩
theorem four_w (f : Nat → Nat → Int32) : mU (mU (mU (mU f 53 38 0) 66 0 0) 66 1 0) 53 2 0 53 38 = 0 ∧ mU (mU (mU (mU f 53 38 0) 66 0 0) 66 1 0) 53 2 0 66 0 = 0 ∧ mU (mU (mU (mU f 53 38 0) 66 0 0) 66 1 0) 53 2 0 66 1 = 0 ∧ mU (mU (mU (mU f 53 38 0) 66 0 0) 66 1 0) 53 2 0 53 2 = 0 := ⟨rfl, rfl, rfl, rfl⟩
theorem three_w (f : Nat → Nat → Int32) (a b c : Int32) : mU (mU (mU f 55 0 a) 59 0 b) 62 0 c 55 0 = a ∧ mU (mU (mU f 55 0 a) 59 0 b) 62 0 c 59 0 = b ∧ mU (mU (mU f 55 0 a) 59 0 b) 62 0 c 62 0 = c := ⟨rfl, rfl, rfl⟩
theorem three_o (f : Nat → Nat → Int32) (a b c : Int32) {p : Nat} (h : p ≠ 55 ∧ p ≠ 59 ∧ p ≠ 62) : mU (mU (mU f 55 0 a) 59 0 b) 62 0 c p = f p := (mU_ne h.2.2).trans ((mU_ne h.2.1).trans (mU_ne h.1))
theorem w3 (f : Nat → Nat → Int32) (k : Nat) (x y z : Int32) {p q r : Nat} (h : p ≠ q ∧ p ≠ r ∧ q ≠ r) : mU (mU (mU f p k x) q k y) r k z p = upd (f p) k x ∧ mU (mU (mU f p k x) q k y) r k z q = upd (f q) k y ∧ mU (mU (mU f p k x) q k y) r k z r = upd (f r) k z ∧ ∀ t, t ≠ p ∧ t ≠ q ∧ t ≠ r → mU (mU (mU f p k x) q k y) r k z t = f t := by
  refine ⟨?_, ?_, ?_, fun t ht => ?_⟩
  · rw [mU_ne h.2.1, mU_ne h.1, mU_eq]
  · rw [mU_ne h.2.2, mU_eq, mU_ne h.1.symm]
  · rw [mU_eq, mU_ne h.2.2.symm, mU_ne h.2.1.symm]
  · rw [mU_ne ht.2.2, mU_ne ht.2.1, mU_ne ht.1]
theorem w4 (f : Nat → Nat → Int32) (k : Nat) (x y z a : Int32) {p q r s : Nat} (h : (p ≠ q ∧ p ≠ r ∧ q ≠ r) ∧ p ≠ s ∧ q ≠ s ∧ r ≠ s) : mU (mU (mU (mU f p k x) q k y) r k z) s k a p = upd (f p) k x ∧ mU (mU (mU (mU f p k x) q k y) r k z) s k a q = upd (f q) k y ∧ mU (mU (mU (mU f p k x) q k y) r k z) s k a r = upd (f r) k z ∧ mU (mU (mU (mU f p k x) q k y) r k z) s k a s = upd (f s) k a ∧ ∀ t, (t ≠ p ∧ t ≠ q ∧ t ≠ r) ∧ t ≠ s → mU (mU (mU (mU f p k x) q k y) r k z) s k a t = f t := by
  have h3 := w3 f k x y z h.1
  refine ⟨?_, ?_, ?_, ?_, fun t ht => ?_⟩
  · rw [mU_ne h.2.1]; exact h3.1
  · rw [mU_ne h.2.2.1]; exact h3.2.1
  · rw [mU_ne h.2.2.2]; exact h3.2.2.1
  · rw [mU_eq, h3.2.2.2 s ⟨h.2.1.symm, h.2.2.1.symm, h.2.2.2.symm⟩]
  · rw [mU_ne ht.2]; exact h3.2.2.2 t ht.1
theorem MQu_0 {st : mSt} {b : Nat → Nat} {L : Nat} (h1 : MK st b L (skB b L 0)) (h2 : st.1 53 17 = -9) : MQu st b L (rd (TT b L) 0).p := by
  have e : (rd (TT b L) 0).p = (0, false) := rfl
  rw [e]
  exact ⟨h1, h2.trans (if_neg Bool.false_ne_true).symm⟩
theorem w_isub {C : Nat → List Value → mSt → Option Value → mSt → Prop} {S : Nat × (Nat → Int32)} {P : Nat → Option mE} {rt : Option FieldType} {Q : Option Value → mSt → Prop} {pc : Nat} {ls : mLs} {st : mSt} {r : List Value} {len : Nat} {aux : List Nat} {z : Int} {x y v : Int32} (hp : P pc = some (.isub, len, aux, z)) (hv : x - y = v) (k : mW C S P rt Q (pc + 1) ls (.int v :: r) st) : mW C S P rt Q pc ls (.int y :: .int x :: r) st := w_step hp (fun K k => by
  show K (pc + 1) ls (.int (x - y) :: r) st
  rw [hv]
  exact k) k
theorem MR_cp {s0 s2 : mSt} {n : Nat → Nat} {c : Nat → Nat → Nat} (hm : MSc s0 n c) (hB : CB n c) (h0 : s2.1 55 0 = nI (n 0)) (h1 : s2.1 59 0 = nI (n 1)) (h2 : s2.1 62 0 = nI (n 2)) (a6 : cpL 56 6 6 s0 s2) (a7 : cpL 57 6 6 s0 s2) (a8 : cpL 58 6 6 s0 s2) (b0 : cpL 60 8 8 s0 s2) (b1 : cpL 61 8 8 s0 s2) (b3 : cpL 63 8 8 s0 s2) (b4 : cpL 64 8 8 s0 s2) : MR s2 n c := by
  obtain ⟨c0, c1, c2, -⟩ := hB
  refine ⟨h0, h1, h2, fun d hd => ?_, fun z hz => ?_, fun y hy => ?_⟩
  · have r := hm.2.2.2.1 d hd
    exact ⟨(a6.1 d (by omega)).trans r.1, (a7.1 d (by omega)).trans r.2.1, (a8.1 d (by omega)).trans r.2.2⟩
  · have r := hm.2.2.2.2.1 z hz
    exact ⟨(b0.1 z (by omega)).trans r.1, (b1.1 z (by omega)).trans r.2⟩
  · have r := hm.2.2.2.2.2 y hy
    exact ⟨(b3.1 y (by omega)).trans r.1, (b4.1 y (by omega)).trans r.2⟩
set_option maxRecDepth 20000 in
/-- gang() -/
theorem m_gang (d : Nat) (L : Nat) (b : Nat → Nat) (v : Nat → Int32) (u : Nat → Nat) (st : mSt) (hP : MS st L b) (hb : ∀ j, j < L → b j < 256) (hL : L ≤ 300) (hM : NM0 st v u) : ∃ (q : RQ) (s : mSt), mMC mT (d + 6) 140 [.ref 53] st (some (.int (gA b L q))) s ∧ RDR (TT b L) q ∧ (q.p.2 = true → MRl st s ∧ FF [53, 55, 56, 57, 58, 59, 60, 61, 62, 63, 64] [13, 14, 15, 16, 17] st s) ∧ (q.p.2 = false → MR s q.n q.c ∧ NM0 s (fun _ => 0) (fun _ => 0) ∧ s.1 53 38 = 0 ∧ s.1 66 0 = 0 ∧ s.1 66 1 = 0 ∧ s.1 53 2 = 0 ∧ Fr [53, 55, 56, 57, 58, 59, 60, 61, 62, 63, 64, 65, 66] st s ∧ Fk 53 [2, 13, 14, 15, 16, 17, 38] st s ∧ s.2 53 = st.2 53) := by
  suffices H : ∀ Q : Option Value → mSt → Prop, (∀ (q : RQ) (s : mSt), (RDR (TT b L) q ∧ (q.p.2 = true → MRl st s ∧ FF [53, 55, 56, 57, 58, 59, 60, 61, 62, 63, 64] [13, 14, 15, 16, 17] st s) ∧ (q.p.2 = false → MR s q.n q.c ∧ NM0 s (fun _ => 0) (fun _ => 0) ∧ s.1 53 38 = 0 ∧ s.1 66 0 = 0 ∧ s.1 66 1 = 0 ∧ s.1 53 2 = 0 ∧ Fr [53, 55, 56, 57, 58, 59, 60, 61, 62, 63, 64, 65, 66] st s ∧ Fk 53 [2, 13, 14, 15, 16, 17, 38] st s ∧ s.2 53 = st.2 53)) → Q (some (.int (gA b L q))) s) → mW (mMC mT (d + 5)) (0, fun _ => 0) (mAtL P_X10_gang) (some .int) Q 0 [some (.ref 53), none, none] [] st by
    obtain ⟨_, _, ⟨q, s, rfl, rfl, hp⟩, hw⟩ := mW_ex (H (fun vv tt => ∃ (q : RQ) (s : mSt),  vv = some (.int (gA b L q)) ∧ s = tt ∧ RDR (TT b L) q ∧ (q.p.2 = true → MRl st s ∧ FF [53, 55, 56, 57, 58, 59, 60, 61, 62, 63, 64] [13, 14, 15, 16, 17] st s) ∧ (q.p.2 = false → MR s q.n q.c ∧ NM0 s (fun _ => 0) (fun _ => 0) ∧ s.1 53 38 = 0 ∧ s.1 66 0 = 0 ∧ s.1 66 1 = 0 ∧ s.1 53 2 = 0 ∧ Fr [53, 55, 56, 57, 58, 59, 60, 61, 62, 63, 64, 65, 66] st s ∧ Fk 53 [2, 13, 14, 15, 16, 17, 38] st s ∧ s.2 53 = st.2 53)) (fun q s hp => ⟨q, s, rfl, rfl, hp⟩))
    exact ⟨q, s, mI_X10_gang (d := d + 5) (Nat.le_of_ble_eq_true rfl) hw, hp⟩
  intro Q hq
  have keyE : ∀ (q : RQ) (m : Nat) (s0 : mSt), RDR (TT b L) q → (q.p.2 = false → tot q = m) → MQu s0 b L q.p → (q.p.2 = false → MSc s0 q.n q.c) → MRl st s0 → FF [53, 55, 56, 57, 58, 59, 60, 61, 62, 63, 64] [13, 14, 15, 16, 17] st s0 → mW (mMC mT (d + 5)) (0, fun _ => 0) (mAtL P_X10_gang) (some .int) Q 65 [some (.ref 53), some (.int (nI m)), none] [] s0 := by
    intro q m s0 hrd htm hQ hmS hml hf
    have hpl := ps_le b L q.p.1
    have hcb := RDR_CB hrd
    obtain ⟨hb0, hb1, hb2, -⟩ := id hcb
    by_cases hf2 : q.p.2 = true
    · have hF : s0.1 53 17 = nI (ps b L q.p.1) := hQ.2.trans (if_pos hf2)
      obtain ⟨z9, hz9⟩ : ∃ z9, -10 - nI (ps b L q.p.1) = z9 := ⟨_, rfl⟩
      have hres : gA b L q = z9 := (if_pos hf2).trans hz9
      have hqq := hq q s0
      rw [hres] at hqq
      refine w_blk 2 (pc' := 69) (ls' := [some (.ref 53), some (.int (nI m)), none]) (sk' := [.int (s0.1 53 17)]) (st' := s0) (fun _ h => h) ?_
      rw [hF]
      refine w_blk 1 (pc' := 71) (ls' := [some (.ref 53), some (.int (nI m)), none]) (sk' := [.int (-9), .int (nI (ps b L q.p.1))]) (st' := s0) (fun _ h => h) ?_
      refine w_cmp_eq rfl (fun hno => absurd hno (nI9 (by omega))) (fun _ => ?_)
      refine w_blk 3 (pc' := 80) (ls' := [some (.ref 53), some (.int (nI m)), none]) (sk' := [.int (s0.1 53 17), .int (-10)]) (st' := s0) (fun _ h => h) ?_
      rw [hF]
      refine w_isub rfl hz9 ?_
      exact w_iret rfl rfl rfl (hqq ⟨hrd, fun _ => ⟨hml, hf⟩, fun h => absurd h (by rw [hf2]; decide)⟩)
    · have hff : q.p.2 = false := Bool.eq_false_iff.mpr hf2
      have hF : s0.1 53 17 = -9 := hQ.2.trans (if_neg hf2)
      have hS := hmS hff
      have hres : gA b L q = nI m := (if_neg hf2).trans (congrArg nI (htm hff))
      refine w_blk 2 (pc' := 69) (ls' := [some (.ref 53), some (.int (nI m)), none]) (sk' := [.int (s0.1 53 17)]) (st' := s0) (fun _ h => h) ?_
      rw [hF]
      refine w_blk 1 (pc' := 71) (ls' := [some (.ref 53), some (.int (nI m)), none]) (sk' := [.int (-9), .int (-9)]) (st' := s0) (fun _ h => h) ?_
      refine w_cmp_eq rfl (fun _ => ?_) (fun hno => absurd rfl hno)
      refine w_blk 6 (pc' := 92) (ls' := [some (.ref 53), some (.int (nI m)), none]) (sk' := [.int 1, .ref 55, .int 0, .ref 55]) (st' := s0) (fun _ h => h) ?_
      refine w_iald rfl rfl (vp_in_nI (n := 1) (N := 2) (by decide) (by decide)) ?_
      rw [show Int32.toNatClampNeg (1 : Int32) = 1 from rfl]
      rw [hS.1]
      refine w_iast rfl rfl (vp_in_nI (n := 0) (N := 2) (by decide) (by decide)) ?_
      rw [show Int32.toNatClampNeg (0 : Int32) = 0 from rfl]
      refine w_blk 6 (pc' := 104) (ls' := [some (.ref 53), some (.int (nI m)), none]) (sk' := [.int 1, .ref 59, .int 0, .ref 59]) (st' := ((mU s0.1 55 0 (nI (q.n 0))), s0.2)) (fun _ h => h) ?_
      refine w_iald rfl rfl (vp_in_nI (n := 1) (N := 2) (by decide) (by decide)) ?_
      rw [show Int32.toNatClampNeg (1 : Int32) = 1 from rfl]
      show mW (mMC mT (d + 5)) (0, fun _ => 0) (mAtL P_X10_gang) (some .int) Q 105 [some (.ref 53), some (.int (nI m)), none] [.int (s0.1 59 1), .int 0, .ref 59] ((mU s0.1 55 0 (nI (q.n 0))), s0.2)
      rw [hS.2.1]
      refine w_iast rfl rfl (vp_in_nI (n := 0) (N := 2) (by decide) (by decide)) ?_
      rw [show Int32.toNatClampNeg (0 : Int32) = 0 from rfl]
      refine w_blk 6 (pc' := 116) (ls' := [some (.ref 53), some (.int (nI m)), none]) (sk' := [.int 1, .ref 62, .int 0, .ref 62]) (st' := ((mU (mU s0.1 55 0 (nI (q.n 0))) 59 0 (nI (q.n 1))), s0.2)) (fun _ h => h) ?_
      refine w_iald rfl rfl (vp_in_nI (n := 1) (N := 2) (by decide) (by decide)) ?_
      rw [show Int32.toNatClampNeg (1 : Int32) = 1 from rfl]
      show mW (mMC mT (d + 5)) (0, fun _ => 0) (mAtL P_X10_gang) (some .int) Q 117 [some (.ref 53), some (.int (nI m)), none] [.int (s0.1 62 1), .int 0, .ref 62] ((mU (mU s0.1 55 0 (nI (q.n 0))) 59 0 (nI (q.n 1))), s0.2)
      rw [hS.2.2.1]
      refine w_iast rfl rfl (vp_in_nI (n := 0) (N := 2) (by decide) (by decide)) ?_
      rw [show Int32.toNatClampNeg (0 : Int32) = 0 from rfl]
      have hC0_2 : (((mU (mU (mU s0.1 55 0 (nI (q.n 0))) 59 0 (nI (q.n 1))) 62 0 (nI (q.n 2))), s0.2)).1 55 0 = nI (q.n 0) := (three_w s0.1 (nI (q.n 0)) (nI (q.n 1)) (nI (q.n 2))).1
      have hC1_3 : (((mU (mU (mU s0.1 55 0 (nI (q.n 0))) 59 0 (nI (q.n 1))) 62 0 (nI (q.n 2))), s0.2)).1 59 0 = nI (q.n 1) := (three_w s0.1 (nI (q.n 0)) (nI (q.n 1)) (nI (q.n 2))).2.1
      have hC2_4 : (((mU (mU (mU s0.1 55 0 (nI (q.n 0))) 59 0 (nI (q.n 1))) 62 0 (nI (q.n 2))), s0.2)).1 62 0 = nI (q.n 2) := (three_w s0.1 (nI (q.n 0)) (nI (q.n 1)) (nI (q.n 2))).2.2
      have hF_5 : FF [53, 55, 56, 57, 58, 59, 60, 61, 62, 63, 64] [13, 14, 15, 16, 17] st ((mU (mU (mU s0.1 55 0 (nI (q.n 0))) 59 0 (nI (q.n 1))) 62 0 (nI (q.n 2))), s0.2) := (FF.wr (FF.wr (FF.wr hf (by decide) (by decide)) (by decide) (by decide)) (by decide) (by decide))
      have hP56_6 : (((mU (mU (mU s0.1 55 0 (nI (q.n 0))) 59 0 (nI (q.n 1))) 62 0 (nI (q.n 2))), s0.2)).1 56 = s0.1 56 := (three_o s0.1 (nI (q.n 0)) (nI (q.n 1)) (nI (q.n 2)) (p := 56) (by decide))
      have hP57_7 : (((mU (mU (mU s0.1 55 0 (nI (q.n 0))) 59 0 (nI (q.n 1))) 62 0 (nI (q.n 2))), s0.2)).1 57 = s0.1 57 := (three_o s0.1 (nI (q.n 0)) (nI (q.n 1)) (nI (q.n 2)) (p := 57) (by decide))
      have hP58_8 : (((mU (mU (mU s0.1 55 0 (nI (q.n 0))) 59 0 (nI (q.n 1))) 62 0 (nI (q.n 2))), s0.2)).1 58 = s0.1 58 := (three_o s0.1 (nI (q.n 0)) (nI (q.n 1)) (nI (q.n 2)) (p := 58) (by decide))
      have hP60_9 : (((mU (mU (mU s0.1 55 0 (nI (q.n 0))) 59 0 (nI (q.n 1))) 62 0 (nI (q.n 2))), s0.2)).1 60 = s0.1 60 := (three_o s0.1 (nI (q.n 0)) (nI (q.n 1)) (nI (q.n 2)) (p := 60) (by decide))
      have hP61_10 : (((mU (mU (mU s0.1 55 0 (nI (q.n 0))) 59 0 (nI (q.n 1))) 62 0 (nI (q.n 2))), s0.2)).1 61 = s0.1 61 := (three_o s0.1 (nI (q.n 0)) (nI (q.n 1)) (nI (q.n 2)) (p := 61) (by decide))
      have hP63_11 : (((mU (mU (mU s0.1 55 0 (nI (q.n 0))) 59 0 (nI (q.n 1))) 62 0 (nI (q.n 2))), s0.2)).1 63 = s0.1 63 := (three_o s0.1 (nI (q.n 0)) (nI (q.n 1)) (nI (q.n 2)) (p := 63) (by decide))
      have hP64_12 : (((mU (mU (mU s0.1 55 0 (nI (q.n 0))) 59 0 (nI (q.n 1))) 62 0 (nI (q.n 2))), s0.2)).1 64 = s0.1 64 := (three_o s0.1 (nI (q.n 0)) (nI (q.n 1)) (nI (q.n 2)) (p := 64) (by decide))
      generalize ((mU (mU (mU s0.1 55 0 (nI (q.n 0))) 59 0 (nI (q.n 1))) 62 0 (nI (q.n 2))), s0.2) = s1 at hC0_2 hC1_3 hC2_4 hF_5 hP56_6 hP57_7 hP58_8 hP60_9 hP61_10 hP63_11 hP64_12 ⊢
      have keyZ : ∀ (s5 : mSt) (l2 : Option Value), s5.1 55 0 = nI (q.n 0) → s5.1 59 0 = nI (q.n 1) → s5.1 62 0 = nI (q.n 2) → FF [53, 55, 56, 57, 58, 59, 60, 61, 62, 63, 64] [13, 14, 15, 16, 17] st s5 → cpL 56 6 6 s0 s5 → cpL 57 6 6 s0 s5 → cpL 58 6 6 s0 s5 → cpL 60 8 8 s0 s5 → cpL 61 8 8 s0 s5 → cpL 63 8 8 s0 s5 → cpL 64 8 8 s0 s5 → mW (mMC mT (d + 5)) (0, fun _ => 0) (mAtL P_X10_gang) (some .int) Q 251 [some (.ref 53), some (.int (nI m)), l2] [] s5 := by
        intro s5 l2 g0 g1 g2 hf5 a56 a57 a58 a60 a61 a63 a64
        have hR5 : MR s5 q.n q.c := MR_cp hS hcb g0 g1 g2 a56 a57 a58 a60 a61 a63 a64
        obtain ⟨s6, hc, hM6, hf6⟩ := m_anew (d + 4) v u s5 (NM0_fr hf5.1 (by decide) hM)
        refine w_blk 1 (pc' := 252) (ls' := [some (.ref 53), some (.int (nI m)), l2]) (sk' := [.ref 53]) (st' := s5) (fun _ h => h) ?_
        refine w_callV (As := [.ref 53]) (rest := []) rfl rfl rfl (Nat.le_of_ble_eq_true rfl) (Nat.le_of_ble_eq_true rfl) (by first | exact Or.inl ⟨rfl, rfl⟩ | exact Or.inr ⟨rfl, rfl⟩) hc ?_
        refine w_blk 8 (pc' := 267) (ls' := [some (.ref 53), some (.int (nI m)), l2]) (sk' := [.int 0, .int 0, .ref 66]) (st' := ((mU s6.1 53 38 0), s6.2)) (fun _ h => h) ?_
        refine w_bast2 rfl rfl (vp_in_nI (n := 0) (N := 2) (by decide) (by decide)) (Or.inl rfl) ?_
        rw [show Int32.toNatClampNeg (0 : Int32) = 0 from rfl]
        refine w_blk 4 (pc' := 274) (ls' := [some (.ref 53), some (.int (nI m)), l2]) (sk' := [.int 0, .int 1, .ref 66]) (st' := ((mU (mU s6.1 53 38 0) 66 0 0), s6.2)) (fun _ h => h) ?_
        refine w_bast2 rfl rfl (vp_in_nI (n := 1) (N := 2) (by decide) (by decide)) (Or.inl rfl) ?_
        rw [show Int32.toNatClampNeg (1 : Int32) = 1 from rfl]
        refine w_blk 4 (pc' := 281) (ls' := [some (.ref 53), some (.int (nI m)), l2]) (sk' := [.int (nI m)]) (st' := ((mU (mU (mU (mU s6.1 53 38 0) 66 0 0) 66 1 0) 53 2 0), s6.2)) (fun _ h => h) ?_
        have hfF : Fr [53, 66] s6 ((mU (mU (mU (mU s6.1 53 38 0) 66 0 0) 66 1 0) 53 2 0), s6.2) := Fr.trans (Fr.trans (Fr.trans (Fr.mU (by decide)) (Fr.mU (by decide))) (Fr.mU (by decide))) (Fr.mU (by decide))
        have hkF : Fk 53 [2, 13, 14, 15, 16, 17, 38] st ((mU (mU (mU (mU s6.1 53 38 0) 66 0 0) 66 1 0) 53 2 0), s6.2) := Fk.trans (fun j hj => (congrFun (hf6.1 53 (by decide)) j).trans (hf5.2.1 j (fun e => hj ((show ∀ z, z ∈ [13, 14, 15, 16, 17] → z ∈ [2, 13, 14, 15, 16, 17, 38] by decide) j e)))) (Fk.trans (Fk.trans (Fk.trans (Fk.wr (by decide)) (Fk.wn (by decide))) (Fk.wn (by decide))) (Fk.wr (by decide)))
        have hqq := hq q ((mU (mU (mU (mU s6.1 53 38 0) 66 0 0) 66 1 0) 53 2 0), s6.2)
        rw [hres] at hqq
        exact w_iret rfl rfl rfl (hqq ⟨hrd, fun h => absurd h hf2, fun _ => ⟨MR_fr (Fr.trans (Fr.mono hf6 (by decide) : Fr [53, 65, 66] s5 s6) (Fr.mono hfF (by decide))) (by decide) hR5, NM0_fr hfF (by decide) hM6, (four_w s6.1).1, (four_w s6.1).2.1, (four_w s6.1).2.2.1, (four_w s6.1).2.2.2, Fr.trans (Fr.mono hf5.1 (by decide)) (Fr.trans (Fr.mono hf6 (by decide)) (Fr.mono hfF (by decide))), hkF, (hf6.2 53 (by decide)).trans (congrFun hf5.2.2 53)⟩⟩)
      have key2 : ∀ (m9 k : Nat) (s5 : mSt), k + m9 = 8 → s5.1 55 0 = nI (q.n 0) → s5.1 59 0 = nI (q.n 1) → s5.1 62 0 = nI (q.n 2) → FF [53, 55, 56, 57, 58, 59, 60, 61, 62, 63, 64] [13, 14, 15, 16, 17] st s5 → cpL 56 6 6 s0 s5 → cpL 57 6 6 s0 s5 → cpL 58 6 6 s0 s5 → cpL 60 8 k s0 s5 → cpL 61 8 k s0 s5 → cpL 63 8 k s0 s5 → cpL 64 8 k s0 s5 → mW (mMC mT (d + 5)) (0, fun _ => 0) (mAtL P_X10_gang) (some .int) Q 179 [some (.ref 53), some (.int (nI m)), some (.int (nI k))] [] s5 := by
        intro m9
        induction m9 with
        | zero =>
          intro k s5 hk g0 g1 g2 hf5 a56 a57 a58 a60 a61 a63 a64
          obtain rfl : k = 8 := by omega
          refine w_blk 2 (pc' := 182) (ls' := [some (.ref 53), some (.int (nI m)), some (.int (nI 8))]) (sk' := [.int 8, .int (nI 8)]) (st' := s5) (fun _ h => h) ?_
          refine w_cmp_ge rfl (fun _ => ?_) (fun hno => absurd (Int32.le_refl _) hno)
          exact keyZ s5 _ g0 g1 g2 hf5 a56 a57 a58 a60 a61 a63 a64
        | succ m9 ih =>
          intro k s5 hk g0 g1 g2 hf5 a56 a57 a58 a60 a61 a63 a64
          have hk2 : k < 8 := by omega
          refine w_blk 2 (pc' := 182) (ls' := [some (.ref 53), some (.int (nI m)), some (.int (nI k))]) (sk' := [.int 8, .int (nI k)]) (st' := s5) (fun _ h => h) ?_
          refine w_cmp_ge rfl (fun hno => absurd hno (nI_ge (a := k) (b := 8) hk2 (by decide))) (fun _ => ?_)
          refine w_blk 8 (pc' := 198) (ls' := [some (.ref 53), some (.int (nI m)), some (.int (nI k))]) (sk' := [.int (8 + (nI k)), .ref 60, .int (nI k), .ref 60]) (st' := s5) (fun _ h => h) ?_
          rw [show (8 + (nI k)) = nI (8 + k) from nI_add 8 k]
          refine w_iald rfl rfl (vp_in_nI (n := (8 + k)) (N := 16) (by omega) (by decide)) ?_
          rw [nI_clamp (show (8 + k) < 2 ^ 31 by omega)]
          refine w_iast rfl rfl (vp_in_nI (n := k) (N := 16) (by omega) (by decide)) ?_
          rw [nI_clamp (show k < 2 ^ 31 by omega)]
          refine w_blk 8 (pc' := 213) (ls' := [some (.ref 53), some (.int (nI m)), some (.int (nI k))]) (sk' := [.int (8 + (nI k)), .ref 61, .int (nI k), .ref 61]) (st' := ((mU s5.1 60 k (s5.1 60 (8 + k))), s5.2)) (fun _ h => h) ?_
          rw [show (8 + (nI k)) = nI (8 + k) from nI_add 8 k]
          refine w_iald rfl rfl (vp_in_nI (n := (8 + k)) (N := 16) (by omega) (by decide)) ?_
          rw [nI_clamp (show (8 + k) < 2 ^ 31 by omega)]
          show mW (mMC mT (d + 5)) (0, fun _ => 0) (mAtL P_X10_gang) (some .int) Q 214 [some (.ref 53), some (.int (nI m)), some (.int (nI k))] [.int (s5.1 61 (8 + k)), .int (nI k), .ref 61] ((mU s5.1 60 k (s5.1 60 (8 + k))), s5.2)
          refine w_iast rfl rfl (vp_in_nI (n := k) (N := 16) (by omega) (by decide)) ?_
          rw [nI_clamp (show k < 2 ^ 31 by omega)]
          refine w_blk 8 (pc' := 228) (ls' := [some (.ref 53), some (.int (nI m)), some (.int (nI k))]) (sk' := [.int (8 + (nI k)), .ref 63, .int (nI k), .ref 63]) (st' := ((mU (mU s5.1 60 k (s5.1 60 (8 + k))) 61 k (s5.1 61 (8 + k))), s5.2)) (fun _ h => h) ?_
          rw [show (8 + (nI k)) = nI (8 + k) from nI_add 8 k]
          refine w_iald rfl rfl (vp_in_nI (n := (8 + k)) (N := 16) (by omega) (by decide)) ?_
          rw [nI_clamp (show (8 + k) < 2 ^ 31 by omega)]
          show mW (mMC mT (d + 5)) (0, fun _ => 0) (mAtL P_X10_gang) (some .int) Q 229 [some (.ref 53), some (.int (nI m)), some (.int (nI k))] [.int (s5.1 63 (8 + k)), .int (nI k), .ref 63] ((mU (mU s5.1 60 k (s5.1 60 (8 + k))) 61 k (s5.1 61 (8 + k))), s5.2)
          refine w_iast rfl rfl (vp_in_nI (n := k) (N := 16) (by omega) (by decide)) ?_
          rw [nI_clamp (show k < 2 ^ 31 by omega)]
          refine w_blk 8 (pc' := 243) (ls' := [some (.ref 53), some (.int (nI m)), some (.int (nI k))]) (sk' := [.int (8 + (nI k)), .ref 64, .int (nI k), .ref 64]) (st' := ((mU (mU (mU s5.1 60 k (s5.1 60 (8 + k))) 61 k (s5.1 61 (8 + k))) 63 k (s5.1 63 (8 + k))), s5.2)) (fun _ h => h) ?_
          rw [show (8 + (nI k)) = nI (8 + k) from nI_add 8 k]
          refine w_iald rfl rfl (vp_in_nI (n := (8 + k)) (N := 16) (by omega) (by decide)) ?_
          rw [nI_clamp (show (8 + k) < 2 ^ 31 by omega)]
          show mW (mMC mT (d + 5)) (0, fun _ => 0) (mAtL P_X10_gang) (some .int) Q 244 [some (.ref 53), some (.int (nI m)), some (.int (nI k))] [.int (s5.1 64 (8 + k)), .int (nI k), .ref 64] ((mU (mU (mU s5.1 60 k (s5.1 60 (8 + k))) 61 k (s5.1 61 (8 + k))) 63 k (s5.1 63 (8 + k))), s5.2)
          refine w_iast rfl rfl (vp_in_nI (n := k) (N := 16) (by omega) (by decide)) ?_
          rw [nI_clamp (show k < 2 ^ 31 by omega)]
          refine w_blk 1 (pc' := 248) (ls' := [some (.ref 53), some (.int (nI m)), some (.int ((nI k) + 1))]) (sk' := []) (st' := ((mU (mU (mU (mU s5.1 60 k (s5.1 60 (8 + k))) 61 k (s5.1 61 (8 + k))) 63 k (s5.1 63 (8 + k))) 64 k (s5.1 64 (8 + k))), s5.2)) (fun _ h => h) ?_
          rw [show ((nI k) + 1) = nI (k + 1) from nI_add k 1]
          refine w_blk 1 (pc' := 179) (ls' := [some (.ref 53), some (.int (nI m)), some (.int (nI (k + 1)))]) (sk' := []) (st' := ((mU (mU (mU (mU s5.1 60 k (s5.1 60 (8 + k))) 61 k (s5.1 61 (8 + k))) 63 k (s5.1 63 (8 + k))) 64 k (s5.1 64 (8 + k))), s5.2)) (fun _ h => h) ?_
          have hw := w4 s5.1 k (s5.1 60 (8 + k)) (s5.1 61 (8 + k)) (s5.1 63 (8 + k)) (s5.1 64 (8 + k)) (p := 60) (q := 61) (r := 63) (s := 64) (by decide)
          exact ih (k + 1) ((mU (mU (mU (mU s5.1 60 k (s5.1 60 (8 + k))) 61 k (s5.1 61 (8 + k))) 63 k (s5.1 63 (8 + k))) 64 k (s5.1 64 (8 + k))), s5.2) (by omega) ((congrFun (hw.2.2.2.2 55 (by decide)) 0).trans g0) ((congrFun (hw.2.2.2.2 59 (by decide)) 0).trans g1) ((congrFun (hw.2.2.2.2 62 (by decide)) 0).trans g2) (FF.wr (FF.wr (FF.wr (FF.wr hf5 (by decide) (by decide)) (by decide) (by decide)) (by decide) (by decide)) (by decide) (by decide)) (cpL_e a56 (hw.2.2.2.2 56 (by decide))) (cpL_e a57 (hw.2.2.2.2 57 (by decide))) (cpL_e a58 (hw.2.2.2.2 58 (by decide))) (cpL_s a60 hw.1) (cpL_s a61 hw.2.1) (cpL_s a63 hw.2.2.1) (cpL_s a64 hw.2.2.2.1)
      have key1 : ∀ (m9 k : Nat) (s5 : mSt), k + m9 = 6 → s5.1 55 0 = nI (q.n 0) → s5.1 59 0 = nI (q.n 1) → s5.1 62 0 = nI (q.n 2) → FF [53, 55, 56, 57, 58, 59, 60, 61, 62, 63, 64] [13, 14, 15, 16, 17] st s5 → cpL 56 6 k s0 s5 → cpL 57 6 k s0 s5 → cpL 58 6 k s0 s5 → cpL 60 8 0 s0 s5 → cpL 61 8 0 s0 s5 → cpL 63 8 0 s0 s5 → cpL 64 8 0 s0 s5 → mW (mMC mT (d + 5)) (0, fun _ => 0) (mAtL P_X10_gang) (some .int) Q 120 [some (.ref 53), some (.int (nI m)), some (.int (nI k))] [] s5 := by
        intro m9
        induction m9 with
        | zero =>
          intro k s5 hk g0 g1 g2 hf5 a56 a57 a58 a60 a61 a63 a64
          obtain rfl : k = 6 := by omega
          refine w_blk 2 (pc' := 123) (ls' := [some (.ref 53), some (.int (nI m)), some (.int (nI 6))]) (sk' := [.int 6, .int (nI 6)]) (st' := s5) (fun _ h => h) ?_
          refine w_cmp_ge rfl (fun _ => ?_) (fun hno => absurd (Int32.le_refl _) hno)
          refine w_blk 2 (pc' := 179) (ls' := [some (.ref 53), some (.int (nI m)), some (.int 0)]) (sk' := []) (st' := s5) (fun _ h => h) ?_
          exact key2 8 0 s5 (by omega) g0 g1 g2 hf5 a56 a57 a58 a60 a61 a63 a64
        | succ m9 ih =>
          intro k s5 hk g0 g1 g2 hf5 a56 a57 a58 a60 a61 a63 a64
          have hk2 : k < 6 := by omega
          refine w_blk 2 (pc' := 123) (ls' := [some (.ref 53), some (.int (nI m)), some (.int (nI k))]) (sk' := [.int 6, .int (nI k)]) (st' := s5) (fun _ h => h) ?_
          refine w_cmp_ge rfl (fun hno => absurd hno (nI_ge (a := k) (b := 6) hk2 (by decide))) (fun _ => ?_)
          refine w_blk 8 (pc' := 139) (ls' := [some (.ref 53), some (.int (nI m)), some (.int (nI k))]) (sk' := [.int (6 + (nI k)), .ref 56, .int (nI k), .ref 56]) (st' := s5) (fun _ h => h) ?_
          rw [show (6 + (nI k)) = nI (6 + k) from nI_add 6 k]
          refine w_iald rfl rfl (vp_in_nI (n := (6 + k)) (N := 12) (by omega) (by decide)) ?_
          rw [nI_clamp (show (6 + k) < 2 ^ 31 by omega)]
          refine w_iast rfl rfl (vp_in_nI (n := k) (N := 12) (by omega) (by decide)) ?_
          rw [nI_clamp (show k < 2 ^ 31 by omega)]
          refine w_blk 8 (pc' := 154) (ls' := [some (.ref 53), some (.int (nI m)), some (.int (nI k))]) (sk' := [.int (6 + (nI k)), .ref 57, .int (nI k), .ref 57]) (st' := ((mU s5.1 56 k (s5.1 56 (6 + k))), s5.2)) (fun _ h => h) ?_
          rw [show (6 + (nI k)) = nI (6 + k) from nI_add 6 k]
          refine w_iald rfl rfl (vp_in_nI (n := (6 + k)) (N := 12) (by omega) (by decide)) ?_
          rw [nI_clamp (show (6 + k) < 2 ^ 31 by omega)]
          show mW (mMC mT (d + 5)) (0, fun _ => 0) (mAtL P_X10_gang) (some .int) Q 155 [some (.ref 53), some (.int (nI m)), some (.int (nI k))] [.int (s5.1 57 (6 + k)), .int (nI k), .ref 57] ((mU s5.1 56 k (s5.1 56 (6 + k))), s5.2)
          refine w_iast rfl rfl (vp_in_nI (n := k) (N := 12) (by omega) (by decide)) ?_
          rw [nI_clamp (show k < 2 ^ 31 by omega)]
          refine w_blk 8 (pc' := 169) (ls' := [some (.ref 53), some (.int (nI m)), some (.int (nI k))]) (sk' := [.int (6 + (nI k)), .ref 58, .int (nI k), .ref 58]) (st' := ((mU (mU s5.1 56 k (s5.1 56 (6 + k))) 57 k (s5.1 57 (6 + k))), s5.2)) (fun _ h => h) ?_
          rw [show (6 + (nI k)) = nI (6 + k) from nI_add 6 k]
          refine w_iald rfl rfl (vp_in_nI (n := (6 + k)) (N := 12) (by omega) (by decide)) ?_
          rw [nI_clamp (show (6 + k) < 2 ^ 31 by omega)]
          show mW (mMC mT (d + 5)) (0, fun _ => 0) (mAtL P_X10_gang) (some .int) Q 170 [some (.ref 53), some (.int (nI m)), some (.int (nI k))] [.int (s5.1 58 (6 + k)), .int (nI k), .ref 58] ((mU (mU s5.1 56 k (s5.1 56 (6 + k))) 57 k (s5.1 57 (6 + k))), s5.2)
          refine w_iast rfl rfl (vp_in_nI (n := k) (N := 12) (by omega) (by decide)) ?_
          rw [nI_clamp (show k < 2 ^ 31 by omega)]
          refine w_blk 1 (pc' := 174) (ls' := [some (.ref 53), some (.int (nI m)), some (.int ((nI k) + 1))]) (sk' := []) (st' := ((mU (mU (mU s5.1 56 k (s5.1 56 (6 + k))) 57 k (s5.1 57 (6 + k))) 58 k (s5.1 58 (6 + k))), s5.2)) (fun _ h => h) ?_
          rw [show ((nI k) + 1) = nI (k + 1) from nI_add k 1]
          refine w_blk 1 (pc' := 120) (ls' := [some (.ref 53), some (.int (nI m)), some (.int (nI (k + 1)))]) (sk' := []) (st' := ((mU (mU (mU s5.1 56 k (s5.1 56 (6 + k))) 57 k (s5.1 57 (6 + k))) 58 k (s5.1 58 (6 + k))), s5.2)) (fun _ h => h) ?_
          have hw := w3 s5.1 k (s5.1 56 (6 + k)) (s5.1 57 (6 + k)) (s5.1 58 (6 + k)) (p := 56) (q := 57) (r := 58) (by decide)
          exact ih (k + 1) ((mU (mU (mU s5.1 56 k (s5.1 56 (6 + k))) 57 k (s5.1 57 (6 + k))) 58 k (s5.1 58 (6 + k))), s5.2) (by omega) ((congrFun (hw.2.2.2 55 (by decide)) 0).trans g0) ((congrFun (hw.2.2.2 59 (by decide)) 0).trans g1) ((congrFun (hw.2.2.2 62 (by decide)) 0).trans g2) (FF.wr (FF.wr (FF.wr hf5 (by decide) (by decide)) (by decide) (by decide)) (by decide) (by decide)) (cpL_s a56 hw.1) (cpL_s a57 hw.2.1) (cpL_s a58 hw.2.2.1) (cpL_e a60 (hw.2.2.2 60 (by decide))) (cpL_e a61 (hw.2.2.2 61 (by decide))) (cpL_e a63 (hw.2.2.2 63 (by decide))) (cpL_e a64 (hw.2.2.2 64 (by decide)))
      refine w_blk 2 (pc' := 120) (ls' := [some (.ref 53), some (.int (nI m)), some (.int 0)]) (sk' := []) (st' := s1) (fun _ h => h) ?_
      exact key1 6 0 s1 (by omega) hC0_2 hC1_3 hC2_4 hF_5 (cpL_0 hP56_6) (cpL_0 hP57_7) (cpL_0 hP58_8) (cpL_0 hP60_9) (cpL_0 hP61_10) (cpL_0 hP63_11) (cpL_0 hP64_12)
  refine w_blk 10 (pc' := 17) (ls' := [some (.ref 53), none, none]) (sk' := [.int 0, .int 1, .ref 55]) (st' := ((mU (mU st.1 53 13 0) 53 17 (-9)), st.2)) (fun _ h => h) ?_
  refine w_iast rfl rfl (vp_in_nI (n := 1) (N := 2) (by decide) (by decide)) ?_
  rw [show Int32.toNatClampNeg (1 : Int32) = 1 from rfl]
  refine w_blk 4 (pc' := 24) (ls' := [some (.ref 53), none, none]) (sk' := [.int 0, .int 1, .ref 59]) (st' := ((mU (mU (mU st.1 53 13 0) 53 17 (-9)) 55 1 0), st.2)) (fun _ h => h) ?_
  refine w_iast rfl rfl (vp_in_nI (n := 1) (N := 2) (by decide) (by decide)) ?_
  rw [show Int32.toNatClampNeg (1 : Int32) = 1 from rfl]
  refine w_blk 4 (pc' := 31) (ls' := [some (.ref 53), none, none]) (sk' := [.int 0, .int 1, .ref 62]) (st' := ((mU (mU (mU (mU st.1 53 13 0) 53 17 (-9)) 55 1 0) 59 1 0), st.2)) (fun _ h => h) ?_
  refine w_iast rfl rfl (vp_in_nI (n := 1) (N := 2) (by decide) (by decide)) ?_
  rw [show Int32.toNatClampNeg (1 : Int32) = 1 from rfl]
  refine w_blk 2 (pc' := 34) (ls' := [some (.ref 53), some (.int 0), none]) (sk' := []) (st' := ((mU (mU (mU (mU (mU st.1 53 13 0) 53 17 (-9)) 55 1 0) 59 1 0) 62 1 0), st.2)) (fun _ h => h) ?_
  have hA_14 : (((mU (mU (mU (mU (mU st.1 53 13 0) 53 17 (-9)) 55 1 0) 59 1 0) 62 1 0), st.2)).1 53 13 = nI 0 := rfl
  have hFA_15 : (((mU (mU (mU (mU (mU st.1 53 13 0) 53 17 (-9)) 55 1 0) 59 1 0) 62 1 0), st.2)).1 53 17 = -9 := rfl
  have hS_16 : MSc ((mU (mU (mU (mU (mU st.1 53 13 0) 53 17 (-9)) 55 1 0) 59 1 0) 62 1 0), st.2) q0.n q0.c := ⟨rfl, rfl, rfl, fun _ h => absurd h (Nat.not_lt_zero _), fun _ h => absurd h (Nat.not_lt_zero _), fun _ h => absurd h (Nat.not_lt_zero _)⟩
  have hR_17 : MRl st ((mU (mU (mU (mU (mU st.1 53 13 0) 53 17 (-9)) 55 1 0) 59 1 0) 62 1 0), st.2) := ⟨rfl, rfl, rfl, fun _ _ => ⟨rfl, rfl, rfl⟩, fun _ _ => ⟨rfl, rfl, rfl, rfl⟩⟩
  have hF_18 : FF [53, 55, 56, 57, 58, 59, 60, 61, 62, 63, 64] [13, 14, 15, 16, 17] st ((mU (mU (mU (mU (mU st.1 53 13 0) 53 17 (-9)) 55 1 0) 59 1 0) 62 1 0), st.2) := (FF.wr (FF.wr (FF.wr (FF.w53 (FF.w53 FF.rf (by decide) (by decide)) (by decide) (by decide)) (by decide) (by decide)) (by decide) (by decide)) (by decide) (by decide))
  generalize ((mU (mU (mU (mU (mU st.1 53 13 0) 53 17 (-9)) 55 1 0) 59 1 0) 62 1 0), st.2) = s13 at hA_14 hFA_15 hS_16 hR_17 hF_18 ⊢
  obtain ⟨s2, hc2, hk2, hf2⟩ := m_next (d + 3) L b 0 s13 (MS_ff hF_18 (by decide) (by decide) hP) hb hL hA_14 (Nat.zero_le _)
  refine w_blk 1 (pc' := 35) (ls' := [some (.ref 53), some (.int 0), none]) (sk' := [.ref 53]) (st' := s13) (fun _ h => h) ?_
  refine w_callV (As := [.ref 53]) (rest := []) rfl rfl rfl (Nat.le_of_ble_eq_true rfl) (Nat.le_of_ble_eq_true rfl) (by first | exact Or.inl ⟨rfl, rfl⟩ | exact Or.inr ⟨rfl, rfl⟩) hc2 ?_
  suffices key : ∀ (f m : Nat) (s0 : mSt), m + f = 302 → (∀ j, j < m → ¬ stopQ (TT b L) (rd (TT b L) j)) → MQu s0 b L (rd (TT b L) m).p → ((rd (TT b L) m).p.2 = false → MSc s0 (rd (TT b L) m).n (rd (TT b L) m).c) → MRl st s0 → FF [53, 55, 56, 57, 58, 59, 60, 61, 62, 63, 64] [13, 14, 15, 16, 17] st s0 → mW (mMC mT (d + 5)) (0, fun _ => 0) (mAtL P_X10_gang) (some .int) Q 38 [some (.ref 53), some (.int (nI m)), none] [] s0 from key 302 0 s2 (by omega) (fun j hj => absurd hj (Nat.not_lt_zero _)) (MQu_0 hk2 ((hf2.2.1 17 (by decide)).trans hFA_15)) (fun _ => MSc_fr hf2.1 (by decide) hS_16) (MRl.trans hR_17 (MRl.fr hf2.1 (by decide))) (FF.trans hF_18 (FF.mono hf2 (by decide) (by decide)))
  intro f
  induction f with
  | zero =>
    intro m s0 hm hns hQ hS hml hf
    have hrm := rd_m (TT b L) m hns
    have hpl := ps_le b L (rd (TT b L) m).p.1
    have hT := TT_r b L (rd (TT b L) m).p.1
    have hs8 := srt_le hT.1
    have h5 := srt_5 hT.1
    have hsr : s0.1 53 15 = nI (srt (TT b L (rd (TT b L) m).p.1)) := hQ.1.2.2.1
    have hpt : TT b L (rd (TT b L) m).p.1 ≠ 100 → (rd (TT b L) m).p.1 < L := fun h => TT_k h
    by_cases hq2 : (rd (TT b L) m).p.2 = true
    · have hF : s0.1 53 17 = nI (ps b L (rd (TT b L) m).p.1) := hQ.2.trans (if_pos hq2)
      refine w_blk 2 (pc' := 42) (ls' := [some (.ref 53), some (.int (nI m)), none]) (sk' := [.int (s0.1 53 17)]) (st' := s0) (fun _ h => h) ?_
      rw [hF]
      refine w_blk 1 (pc' := 44) (ls' := [some (.ref 53), some (.int (nI m)), none]) (sk' := [.int (-9), .int (nI (ps b L (rd (TT b L) m).p.1))]) (st' := s0) (fun _ h => h) ?_
      refine w_cmp_ne rfl (fun _ => ?_) (fun hno => absurd (nI9 (by omega)) hno)
      exact keyE _ m s0 ⟨m, rfl, Or.inl hq2⟩ (fun h => (hrm h).1) hQ hS hml hf
    · have hff : (rd (TT b L) m).p.2 = false := Bool.eq_false_iff.mpr hq2
      have hF : s0.1 53 17 = -9 := hQ.2.trans (if_neg hq2)
      have hrm2 := hrm hff
      refine w_blk 2 (pc' := 42) (ls' := [some (.ref 53), some (.int (nI m)), none]) (sk' := [.int (s0.1 53 17)]) (st' := s0) (fun _ h => h) ?_
      rw [hF]
      refine w_blk 1 (pc' := 44) (ls' := [some (.ref 53), some (.int (nI m)), none]) (sk' := [.int (-9), .int (-9)]) (st' := s0) (fun _ h => h) ?_
      refine w_cmp_ne rfl (fun hno => absurd hno (fun hh => hh rfl)) (fun _ => ?_)
      refine w_blk 2 (pc' := 51) (ls' := [some (.ref 53), some (.int (nI m)), none]) (sk' := [.int (s0.1 53 15)]) (st' := s0) (fun _ h => h) ?_
      rw [hsr]
      refine w_blk 1 (pc' := 52) (ls' := [some (.ref 53), some (.int (nI m)), none]) (sk' := [.int 5, .int (nI (srt (TT b L (rd (TT b L) m).p.1)))]) (st' := s0) (fun _ h => h) ?_
      refine w_cmp_eq rfl (fun h1 => ?_) (fun h1 => ?_)
      · replace h1 : srt (TT b L (rd (TT b L) m).p.1) = 5 := (nI_eq (a := (srt (TT b L (rd (TT b L) m).p.1))) (b := 5) (by omega) (by omega)).mp h1
        exact keyE _ m s0 ⟨m, rfl, Or.inr (h5.mp h1)⟩ (fun h => (hrm h).1) hQ hS hml hf
      · replace h1 : ¬ (srt (TT b L (rd (TT b L) m).p.1) = 5) := fun hh => h1 ((nI_eq (a := (srt (TT b L (rd (TT b L) m).p.1))) (b := 5) (by omega) (by omega)).mpr hh)
        have hlt := hpt (fun e => h1 (h5.mpr e))
        exfalso; omega
  | succ f ih =>
    intro m s0 hm hns hQ hS hml hf
    have hrm := rd_m (TT b L) m hns
    have hpl := ps_le b L (rd (TT b L) m).p.1
    have hT := TT_r b L (rd (TT b L) m).p.1
    have hs8 := srt_le hT.1
    have h5 := srt_5 hT.1
    have hsr : s0.1 53 15 = nI (srt (TT b L (rd (TT b L) m).p.1)) := hQ.1.2.2.1
    have hpt : TT b L (rd (TT b L) m).p.1 ≠ 100 → (rd (TT b L) m).p.1 < L := fun h => TT_k h
    by_cases hq2 : (rd (TT b L) m).p.2 = true
    · have hF : s0.1 53 17 = nI (ps b L (rd (TT b L) m).p.1) := hQ.2.trans (if_pos hq2)
      refine w_blk 2 (pc' := 42) (ls' := [some (.ref 53), some (.int (nI m)), none]) (sk' := [.int (s0.1 53 17)]) (st' := s0) (fun _ h => h) ?_
      rw [hF]
      refine w_blk 1 (pc' := 44) (ls' := [some (.ref 53), some (.int (nI m)), none]) (sk' := [.int (-9), .int (nI (ps b L (rd (TT b L) m).p.1))]) (st' := s0) (fun _ h => h) ?_
      refine w_cmp_ne rfl (fun _ => ?_) (fun hno => absurd (nI9 (by omega)) hno)
      exact keyE _ m s0 ⟨m, rfl, Or.inl hq2⟩ (fun h => (hrm h).1) hQ hS hml hf
    · have hff : (rd (TT b L) m).p.2 = false := Bool.eq_false_iff.mpr hq2
      have hF : s0.1 53 17 = -9 := hQ.2.trans (if_neg hq2)
      have hrm2 := hrm hff
      refine w_blk 2 (pc' := 42) (ls' := [some (.ref 53), some (.int (nI m)), none]) (sk' := [.int (s0.1 53 17)]) (st' := s0) (fun _ h => h) ?_
      rw [hF]
      refine w_blk 1 (pc' := 44) (ls' := [some (.ref 53), some (.int (nI m)), none]) (sk' := [.int (-9), .int (-9)]) (st' := s0) (fun _ h => h) ?_
      refine w_cmp_ne rfl (fun hno => absurd hno (fun hh => hh rfl)) (fun _ => ?_)
      refine w_blk 2 (pc' := 51) (ls' := [some (.ref 53), some (.int (nI m)), none]) (sk' := [.int (s0.1 53 15)]) (st' := s0) (fun _ h => h) ?_
      rw [hsr]
      refine w_blk 1 (pc' := 52) (ls' := [some (.ref 53), some (.int (nI m)), none]) (sk' := [.int 5, .int (nI (srt (TT b L (rd (TT b L) m).p.1)))]) (st' := s0) (fun _ h => h) ?_
      refine w_cmp_eq rfl (fun h1 => ?_) (fun h1 => ?_)
      · replace h1 : srt (TT b L (rd (TT b L) m).p.1) = 5 := (nI_eq (a := (srt (TT b L (rd (TT b L) m).p.1))) (b := 5) (by omega) (by omega)).mp h1
        exact keyE _ m s0 ⟨m, rfl, Or.inr (h5.mp h1)⟩ (fun h => (hrm h).1) hQ hS hml hf
      · replace h1 : ¬ (srt (TT b L (rd (TT b L) m).p.1) = 5) := fun hh => h1 ((nI_eq (a := (srt (TT b L (rd (TT b L) m).p.1))) (b := 5) (by omega) (by omega)).mpr hh)
        have hlt := hpt (fun e => h1 (h5.mpr e))
        have hns2 : ¬ stopQ (TT b L) (rd (TT b L) m) := fun e => e.elim hq2 (fun e2 => h1 (h5.mpr e2))
        have hSm := hS hff
        obtain ⟨s3, hc3, hQ3, hS3, hl3, hf3⟩ := m_readItem (d + 0) L b (rd (TT b L) m) s0 (MS_ff hf (by decide) (by decide) hP) hb hL hQ hff ⟨hSm.1, hSm.2.1, hSm.2.2.1⟩ (rd_CB (TT b L) m)
        rw [← rd_s hns2] at hQ3 hS3
        refine w_blk 1 (pc' := 56) (ls' := [some (.ref 53), some (.int (nI m)), none]) (sk' := [.ref 53]) (st' := s0) (fun _ h => h) ?_
        refine w_callV (As := [.ref 53]) (rest := []) rfl rfl rfl (Nat.le_of_ble_eq_true rfl) (Nat.le_of_ble_eq_true rfl) (by first | exact Or.inl ⟨rfl, rfl⟩ | exact Or.inr ⟨rfl, rfl⟩) hc3 ?_
        refine w_blk 1 (pc' := 62) (ls' := [some (.ref 53), some (.int ((nI m) + 1)), none]) (sk' := []) (st' := s3) (fun _ h => h) ?_
        rw [show ((nI m) + 1) = nI (m + 1) from nI_add m 1]
        refine w_blk 1 (pc' := 38) (ls' := [some (.ref 53), some (.int (nI (m + 1))), none]) (sk' := []) (st' := s3) (fun _ h => h) ?_
        exact ih (m + 1) s3 (by omega) (fun j hj => if e : j = m then (by rw [e]; exact hns2) else hns j (by omega)) hQ3 (fun h => hS3 h hSm) (MRl.trans hml hl3) (FF.trans hf hf3)
