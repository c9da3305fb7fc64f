/-! FOLLOW: look, work; longest, begins of the class -/
theorem lI_shl6 {K : Nat} (h : K < 2 ^ 56) : lI K <<< (Int32.toInt64 6 &&& 63) = lI (K * 64) := by
  apply i64_ext
  show ((lI K).toBitVec <<< ((Int32.toInt64 6 &&& 63).toBitVec.smod 64)).toNat = _
  rw [BitVec.shiftLeft_eq', BitVec.toNat_shiftLeft, show ((Int32.toInt64 6 &&& 63).toBitVec.smod 64).toNat = 6 from by decide, lI_toNat, lI_toNat, Nat.shiftLeft_eq]
  omega
theorem i2l_nI {w : Nat} (h : w < 2 ^ 31) : Int32.toInt64 (nI w) = lI w := by
  apply lI_of (by omega)
  rw [Int32.toInt_toInt64, nI_toInt h]
def KEY (nd : Nat) (ob : Nat → Nat) : Nat → Nat
  | 0 => nd
  | s + 1 => KEY nd ob s * 64 ||| ob s
theorem KEY_s {nd : Nat} {ob : Nat → Nat} {s : Nat} (h : ob s < 64) : KEY nd ob (s + 1) = KEY nd ob s * 64 + ob s := by
  show KEY nd ob s * 64 ||| ob s = _
  have := Nat.two_pow_add_eq_or_of_lt (i := 6) (b := ob s) h (KEY nd ob s)
  rw [Nat.mul_comm (KEY nd ob s) 64]
  exact this.symm
theorem KEY_bd {nd : Nat} {ob : Nat → Nat} (hn : nd ≤ 6) (h : ∀ s, s < 8 → ob s < 64) : ∀ s, s ≤ 8 → KEY nd ob s < 7 * 64 ^ s := by
  intro s
  induction s with
  | zero => exact fun _ => Nat.lt_succ_of_le hn
  | succ s ih =>
    intro hs
    have h1 := ih (by omega)
    have h2 := h s (by omega)
    rw [KEY_s h2, Nat.pow_succ]
    omega
theorem KEY_inj {nd nd' : Nat} {ob ob' : Nat → Nat} : ∀ m, m ≤ 8 → (∀ s, s < m → ob s < 64) → (∀ s, s < m → ob' s < 64) → KEY nd ob m = KEY nd' ob' m → nd = nd' ∧ ∀ s, s < m → ob s = ob' s := by
  intro m
  induction m with
  | zero => exact fun _ _ _ h => ⟨h, fun s hs => absurd hs (Nat.not_lt_zero _)⟩
  | succ m ih =>
    intro hm h1 h2 h
    rw [KEY_s (h1 m (by omega)), KEY_s (h2 m (by omega))] at h
    have e1 := h1 m (by omega)
    have e2 := h2 m (by omega)
    obtain ⟨g1, g2⟩ := ih (by omega) (fun s hs => h1 s (by omega)) (fun s hs => h2 s (by omega)) (by omega)
    refine ⟨g1, fun s hs => ?_⟩
    by_cases e : s = m
    · rw [e]
      omega
    · exact g2 s (by omega)
/-- the edges that bits say -/
def EOb (ob : Nat → Nat) : EdT := fun d s => decide (d < 6 ∧ s < 8) && (ob s).testBit d
theorem EOb_cong {ob ob' : Nat → Nat} (h : ∀ s, s < 8 → ob s = ob' s) : EOb ob = EOb ob' := by
  funext d s
  unfold EOb
  by_cases e : d < 6 ∧ s < 8
  · rw [h s e.2]
  · rw [decide_eq_false e, Bool.false_and, Bool.false_and]
def obN (n : Nat → Nat) (c : Nat → Nat → Nat) (u : Nat → Nat) (s : Nat) : Nat := orB (fun d => EN n c u d s) (fun d => d) (n 0)
theorem obN_bit {n : Nat → Nat} {c : Nat → Nat → Nat} {u : Nat → Nat} {s d : Nat} : (obN n c u s).testBit d = true ↔ EN n c u d s = true := by
  unfold obN
  rw [orB_bit]
  exact ⟨fun ⟨k, h1, h2, h3⟩ => by subst h3; exact h2, fun h => ⟨d, (EN_in h).1, h, rfl⟩⟩
theorem obN_64 {n : Nat → Nat} {c : Nat → Nat → Nat} {u : Nat → Nat} (hn : n 0 ≤ 6) (s : Nat) : obN n c u s < 64 := by
  have h : obN n c u s < 2 ^ 6 := orB_lt (n 0) (fun i hi => by omega)
  exact h
theorem EN_EOb {n : Nat → Nat} {c : Nat → Nat → Nat} {u : Nat → Nat} (h0 : n 0 ≤ 6) (h1 : n 1 ≤ 8) : EN n c u = EOb (obN n c u) := by
  funext d s
  apply Bool.eq_iff_iff.mpr
  unfold EOb
  rw [Bool.and_eq_true, obN_bit]
  constructor
  · intro h
    have := EN_in h
    exact ⟨decide_eq_true ⟨by omega, by omega⟩, h⟩
  · exact fun h => h.2
/-- what the cells of follow hold from the last work -/
def IFol (st : mSt) : Prop := st.2 31 3 = -1 ∨ ∃ (nd : Nat) (ob : Nat → Nat) (R : Nat), nd ≤ 6 ∧ (∀ s, s < 8 → ob s < 64) ∧ st.2 31 3 = lI (KEY nd ob 8) ∧ LGR (fun q => hallB (EOb ob) q nd) nd R ∧ st.1 31 0 = nI R ∧ (R ≠ 0 → ∃ ρ, FST (EOb ob) nd R ρ ∧ ∀ k, k < nd → st.1 32 k = nI (ρ k))
set_option maxRecDepth 20000 in
/-- look(crew, present) -/
theorem c_look_5 (d : Nat) (n : Nat → Nat) (c : Nat → Nat → Nat) (v : Nat → Int32) (u : Nat → Nat) (yd : Nat) (st : mSt) (hX : X5 st n c) (hB : CB n c) (hN : N21 st v u yd) (hU : ∀ j, 3 ≤ j → j < 12 → u j < 256) : ∃ (s : mSt), mMC mT (d + 4) 13 [.ref 31, .ref 5, .ref 21] st (some (.long (lI (KEY (n 0) (obN n c u) 8)))) s ∧ (∀ j, j < 8 → s.1 33 j = nI (obN n c u j)) ∧ s.1 31 2 = nI (n 0) ∧ Fr [31, 32, 33] st s ∧ s.1 31 0 = st.1 31 0 ∧ s.2 = st.2 ∧ s.1 32 = st.1 32 := by
  suffices H : ∀ Q : Option Value → mSt → Prop, (∀ (s : mSt), ((∀ j, j < 8 → s.1 33 j = nI (obN n c u j)) ∧ s.1 31 2 = nI (n 0) ∧ Fr [31, 32, 33] st s ∧ s.1 31 0 = st.1 31 0 ∧ s.2 = st.2 ∧ s.1 32 = st.1 32) → Q (some (.long (lI (KEY (n 0) (obN n c u) 8)))) s) → mW (mMC mT (d + 3)) (0, fun _ => 0) (mAtL P_X0_look) (some .long) Q 0 [some (.ref 31), some (.ref 5), some (.ref 21), none, none, none, none, none] [] st by
    obtain ⟨_, _, ⟨s, rfl, rfl, hp⟩, hw⟩ := mW_ex (H (fun vv tt => ∃ (s : mSt),  vv = some (.long (lI (KEY (n 0) (obN n c u) 8))) ∧ s = tt ∧ (∀ j, j < 8 → s.1 33 j = nI (obN n c u j)) ∧ s.1 31 2 = nI (n 0) ∧ Fr [31, 32, 33] st s ∧ s.1 31 0 = st.1 31 0 ∧ s.2 = st.2 ∧ s.1 32 = st.1 32) (fun s hp => ⟨s, rfl, rfl, hp⟩))
    exact ⟨s, mI_X0_look (d := d + 3) (Nat.le_of_ble_eq_true rfl) hw, hp⟩
  intro Q hq
  obtain ⟨hb0, hb1, hb2, hbd, hbs, hby⟩ := id hB
  have ho64 : ∀ s, s < 8 → obN n c u s < 64 := fun s _ => obN_64 hb0 s
  have hky := KEY_bd hb0 ho64
  refine w_blk 3 (pc' := 5) (ls' := [some (.ref 31), some (.ref 5), some (.ref 21), none, none, none, none, none]) (sk' := [.int (st.1 5 0), .ref 31]) (st' := st) (fun _ h => h) ?_
  rw [hX.1]
  refine w_blk 1 (pc' := 7) (ls' := [some (.ref 31), some (.ref 5), some (.ref 21), none, none, none, none, none]) (sk' := [.int 6, .int (nI (n 0)), .ref 31]) (st' := st) (fun _ h => h) ?_
  refine w_callS (As := [.int (nI (n 0)), .int 6]) (rest := [.ref 31]) rfl rfl rfl (Nat.le_of_ble_eq_true rfl) (Nat.le_of_ble_eq_true rfl) (c_minK (d + 2) (n 0) 6 st (by omega) (by omega)) ?_
  rw [show min (n 0) 6 = n 0 by omega]
  refine w_blk 1 (pc' := 13) (ls' := [some (.ref 31), some (.ref 5), some (.ref 21), none, none, none, none, none]) (sk' := []) (st' := ((mU st.1 31 2 (nI (n 0))), st.2)) (fun _ h => h) ?_
  have hFD_2 : (((mU st.1 31 2 (nI (n 0))), st.2)).1 31 2 = nI (n 0) := rfl
  have hF_3 : Fr [31, 32, 33] st ((mU st.1 31 2 (nI (n 0))), st.2) := (Fr.trans Fr.rf (Fr.mU (by decide)))
  have hF0_4 : (((mU st.1 31 2 (nI (n 0))), st.2)).1 31 0 = st.1 31 0 := rfl
  have hF3_5 : (((mU st.1 31 2 (nI (n 0))), st.2)).2 = st.2 := rfl
  have hF32_6 : (((mU st.1 31 2 (nI (n 0))), st.2)).1 32 = st.1 32 := rfl
  generalize ((mU st.1 31 2 (nI (n 0))), st.2) = s1 at hFD_2 hF_3 hF0_4 hF3_5 hF32_6 ⊢
  refine w_blk 2 (pc' := 17) (ls' := [some (.ref 31), some (.ref 5), some (.ref 21), none, none, none, none, none]) (sk' := [.int (s1.1 31 2)]) (st' := s1) (fun _ h => h) ?_
  rw [hFD_2]
  refine w_blk 1 (pc' := 18) (ls' := [some (.ref 31), some (.ref 5), some (.ref 21), none, none, none, none, none]) (sk' := [.long (Int32.toInt64 (nI (n 0)))]) (st' := s1) (fun _ h => h) ?_
  rw [i2l_nI (show n 0 < 2 ^ 31 by omega)]
  refine w_blk 3 (pc' := 22) (ls' := [some (.ref 31), some (.ref 5), some (.ref 21), some (.long (lI (n 0))), none, some (.int 0), none, none]) (sk' := []) (st' := s1) (fun _ h => h) ?_
  suffices key : ∀ (m s9 : Nat) (s0 : mSt) (l6 l7 : Option Value), s9 + m = 8 → (s0.1 31 2 = nI (n 0)) → Fr [31, 32, 33] st s0 → s0.1 31 0 = st.1 31 0 → s0.2 = st.2 → s0.1 32 = st.1 32 → (∀ j, j < s9 → s0.1 33 j = nI (obN n c u j)) → mW (mMC mT (d + 3)) (0, fun _ => 0) (mAtL P_X0_look) (some .long) Q 22 [some (.ref 31), some (.ref 5), some (.ref 21), some (.long (lI (KEY (n 0) (obN n c u) s9))), none, some (.int (nI s9)), l6, l7] [] s0 from key 8 0 s1 none none (by omega) hFD_2 hF_3 hF0_4 hF3_5 hF32_6 (fun j hj => absurd hj (by omega))
  intro m
  induction m with
  | zero =>
    intro s9 s0 l6 l7 hs hFD hF hF0 hF3 hF32 hz
    have hX0 : X5 s0 n c := X5_fr hF (by decide) hX
    have hN0 : N21 s0 v u yd := N21_fr hF (by decide) hN
    obtain rfl : s9 = 8 := by omega
    refine w_blk 4 (pc' := 29) (ls' := [some (.ref 31), some (.ref 5), some (.ref 21), some (.long (lI (KEY (n 0) (obN n c u) 8))), none, some (.int (nI 8)), l6, l7]) (sk' := [.int (Int32.ofNat 8), .int (nI 8)]) (st' := s0) (fun _ h => h) ?_
    rw [show (Int32.ofNat 8) = nI 8 from rfl]
    refine w_cmp_ge rfl (fun _ => ?_) (fun hno => absurd (Int32.le_refl _) hno)
    refine w_blk 1 (pc' := 108) (ls' := [some (.ref 31), some (.ref 5), some (.ref 21), some (.long (lI (KEY (n 0) (obN n c u) 8))), none, some (.int (nI 8)), l6, l7]) (sk' := [.long (lI (KEY (n 0) (obN n c u) 8))]) (st' := s0) (fun _ h => h) ?_
    exact w_lret rfl rfl (hq s0 ⟨hz, hFD, hF, hF0, hF3, hF32⟩)
  | succ m ih =>
    intro s9 s0 l6 l7 hs hFD hF hF0 hF3 hF32 hz
    have hX0 : X5 s0 n c := X5_fr hF (by decide) hX
    have hN0 : N21 s0 v u yd := N21_fr hF (by decide) hN
    have hs8 : s9 < 8 := by omega
    have hk9 := hky s9 (by omega)
    have h56 : KEY (n 0) (obN n c u) s9 < 2 ^ 56 := Nat.lt_of_lt_of_le hk9 (Nat.le_trans (Nat.mul_le_mul_left 7 (Nat.pow_le_pow_right (n := 64) (by decide) (show s9 ≤ 7 by omega))) (by decide))
    have ho9 := ho64 s9 hs8
    refine w_blk 4 (pc' := 29) (ls' := [some (.ref 31), some (.ref 5), some (.ref 21), some (.long (lI (KEY (n 0) (obN n c u) s9))), none, some (.int (nI s9)), l6, l7]) (sk' := [.int (Int32.ofNat 8), .int (nI s9)]) (st' := s0) (fun _ h => h) ?_
    rw [show (Int32.ofNat 8) = nI 8 from rfl]
    refine w_cmp_ge rfl (fun hno => absurd hno (nI_ge hs8 (by omega))) (fun _ => ?_)
    refine w_blk 4 (pc' := 38) (ls' := [some (.ref 31), some (.ref 5), some (.ref 21), some (.long (lI (KEY (n 0) (obN n c u) s9))), none, some (.int (nI s9)), some (.int 0), some (.int 0)]) (sk' := []) (st' := s0) (fun _ h => h) ?_
    have key2 : ∀ (m k : Nat), k + m = n 0 → mW (mMC mT (d + 3)) (0, fun _ => 0) (mAtL P_X0_look) (some .long) Q 38 [some (.ref 31), some (.ref 5), some (.ref 21), some (.long (lI (KEY (n 0) (obN n c u) s9))), none, some (.int (nI s9)), some (.int (nI (orB (fun d => EN n c u d s9) (fun d => d) k))), some (.int (nI k))] [] s0 := by
      intro m
      induction m with
      | zero =>
        intro k hk
        obtain rfl : n 0 = k := by omega
        refine w_blk 3 (pc' := 44) (ls' := [some (.ref 31), some (.ref 5), some (.ref 21), some (.long (lI (KEY (n 0) (obN n c u) s9))), none, some (.int (nI s9)), some (.int (nI (orB (fun d => EN n c u d s9) (fun d => d) (n 0)))), some (.int (nI (n 0)))]) (sk' := [.int (s0.1 31 2), .int (nI (n 0))]) (st' := s0) (fun _ h => h) ?_
        rw [hFD]
        refine w_cmp_ge rfl (fun _ => ?_) (fun hno => absurd (Int32.le_refl _) hno)
        refine w_blk 4 (pc' := 91) (ls' := [some (.ref 31), some (.ref 5), some (.ref 21), some (.long (lI (KEY (n 0) (obN n c u) s9))), none, some (.int (nI s9)), some (.int (nI (orB (fun d => EN n c u d s9) (fun d => d) (n 0)))), some (.int (nI (n 0)))]) (sk' := [.int (nI (orB (fun d => EN n c u d s9) (fun d => d) (n 0))), .int (nI s9), .ref 33]) (st' := s0) (fun _ h => h) ?_
        refine w_iast rfl rfl (vp_in_nI (n := s9) (N := 8) (by omega) (by decide)) ?_
        rw [nI_clamp (show s9 < 2 ^ 31 by omega)]
        refine w_blk 3 (pc' := 96) (ls' := [some (.ref 31), some (.ref 5), some (.ref 21), some (.long (lI (KEY (n 0) (obN n c u) s9))), none, some (.int (nI s9)), some (.int (nI (orB (fun d => EN n c u d s9) (fun d => d) (n 0)))), some (.int (nI (n 0)))]) (sk' := [.long ((lI (KEY (n 0) (obN n c u) s9)) <<< (Int32.toInt64 6 &&& 63))]) (st' := ((mU s0.1 33 s9 (nI (orB (fun d => EN n c u d s9) (fun d => d) (n 0)))), s0.2)) (fun _ h => h) ?_
        rw [lI_shl6 h56]
        refine w_blk 2 (pc' := 99) (ls' := [some (.ref 31), some (.ref 5), some (.ref 21), some (.long (lI (KEY (n 0) (obN n c u) s9))), none, some (.int (nI s9)), some (.int (nI (orB (fun d => EN n c u d s9) (fun d => d) (n 0)))), some (.int (nI (n 0)))]) (sk' := [.long (Int32.toInt64 (nI (orB (fun d => EN n c u d s9) (fun d => d) (n 0)))), .long (lI (KEY (n 0) (obN n c u) s9 * 64))]) (st' := ((mU s0.1 33 s9 (nI (orB (fun d => EN n c u d s9) (fun d => d) (n 0)))), s0.2)) (fun _ h => h) ?_
        rw [i2l_nI (show orB (fun d => EN n c u d s9) (fun d => d) (n 0) < 2 ^ 31 from Nat.lt_trans ho9 (by decide))]
        refine w_blk 1 (pc' := 100) (ls' := [some (.ref 31), some (.ref 5), some (.ref 21), some (.long (lI (KEY (n 0) (obN n c u) s9))), none, some (.int (nI s9)), some (.int (nI (orB (fun d => EN n c u d s9) (fun d => d) (n 0)))), some (.int (nI (n 0)))]) (sk' := [.long ((lI (KEY (n 0) (obN n c u) s9 * 64)) ||| (lI (orB (fun d => EN n c u d s9) (fun d => d) (n 0))))]) (st' := ((mU s0.1 33 s9 (nI (orB (fun d => EN n c u d s9) (fun d => d) (n 0)))), s0.2)) (fun _ h => h) ?_
        rw [lI_or]
        refine w_blk 2 (pc' := 104) (ls' := [some (.ref 31), some (.ref 5), some (.ref 21), some (.long (lI (KEY (n 0) (obN n c u) s9 * 64 ||| orB (fun d => EN n c u d s9) (fun d => d) (n 0)))), none, some (.int ((nI s9) + 1)), some (.int (nI (orB (fun d => EN n c u d s9) (fun d => d) (n 0)))), some (.int (nI (n 0)))]) (sk' := []) (st' := ((mU s0.1 33 s9 (nI (orB (fun d => EN n c u d s9) (fun d => d) (n 0)))), s0.2)) (fun _ h => h) ?_
        rw [show ((nI s9) + 1) = nI (s9 + 1) from nI_add s9 1]
        refine w_blk 1 (pc' := 22) (ls' := [some (.ref 31), some (.ref 5), some (.ref 21), some (.long (lI (KEY (n 0) (obN n c u) s9 * 64 ||| orB (fun d => EN n c u d s9) (fun d => d) (n 0)))), none, some (.int (nI (s9 + 1))), some (.int (nI (orB (fun d => EN n c u d s9) (fun d => d) (n 0)))), some (.int (nI (n 0)))]) (sk' := []) (st' := ((mU s0.1 33 s9 (nI (orB (fun d => EN n c u d s9) (fun d => d) (n 0)))), s0.2)) (fun _ h => h) ?_
        exact ih (s9 + 1) ((mU s0.1 33 s9 (nI (orB (fun d => EN n c u d s9) (fun d => d) (n 0)))), s0.2) _ _ (by omega) hFD (Fr.trans hF (Fr.mU (by decide))) hF0 hF3 hF32 (fun j hj => if ej : j = s9 then (by rw [ej]; exact mU_at (f := s0.1) (p := 33) (k := s9)) else (mU_row ej).trans (hz j (by omega)))
      | succ m ih2 =>
        intro k hk
        have hk2 : k < n 0 := by omega
        refine w_blk 3 (pc' := 44) (ls' := [some (.ref 31), some (.ref 5), some (.ref 21), some (.long (lI (KEY (n 0) (obN n c u) s9))), none, some (.int (nI s9)), some (.int (nI (orB (fun d => EN n c u d s9) (fun d => d) k))), some (.int (nI k))]) (sk' := [.int (s0.1 31 2), .int (nI k)]) (st' := s0) (fun _ h => h) ?_
        rw [hFD]
        refine w_cmp_ge rfl (fun hno => absurd hno (nI_ge hk2 (by omega))) (fun _ => ?_)
        refine w_blk 2 (pc' := 50) (ls' := [some (.ref 31), some (.ref 5), some (.ref 21), some (.long (lI (KEY (n 0) (obN n c u) s9))), none, some (.int (nI s9)), some (.int (nI (orB (fun d => EN n c u d s9) (fun d => d) k))), some (.int (nI k))]) (sk' := [.int (nI s9), .ref 5]) (st' := s0) (fun _ h => h) ?_
        refine w_callV (As := [.ref 5, .int (nI s9)]) (rest := []) rfl rfl rfl (Nat.le_of_ble_eq_true rfl) (Nat.le_of_ble_eq_true rfl) (by first | exact Or.inl ⟨rfl, rfl⟩ | exact Or.inr ⟨rfl, rfl⟩) (c_hasSpade_5 (d + 2) (nI s9) s0) ?_
        rw [hX0.2.1]
        rw [pI_in2 (a := s9) (b := n 1) (by omega) (by omega)]
        refine w_if_eq rfl (fun h1 => ?_) (fun h1 => ?_)
        · replace h1 := pI_eq0.mp h1
          refine w_blk 1 (pc' := 80) (ls' := [some (.ref 31), some (.ref 5), some (.ref 21), some (.long (lI (KEY (n 0) (obN n c u) s9))), none, some (.int (nI s9)), some (.int (nI (orB (fun d => EN n c u d s9) (fun d => d) k))), some (.int ((nI k) + 1))]) (sk' := []) (st' := s0) (fun _ h => h) ?_
          rw [show ((nI k) + 1) = nI (k + 1) from nI_add k 1]
          refine w_blk 1 (pc' := 38) (ls' := [some (.ref 31), some (.ref 5), some (.ref 21), some (.long (lI (KEY (n 0) (obN n c u) s9))), none, some (.int (nI s9)), some (.int (nI (orB (fun d => EN n c u d s9) (fun d => d) k))), some (.int (nI (k + 1)))]) (sk' := []) (st' := s0) (fun _ h => h) ?_
          exact (by have hh := ih2 (k + 1) (by omega); rw [show orB (fun d => EN n c u d s9) (fun d => d) (k + 1) = orB (fun d => EN n c u d s9) (fun d => d) k from if_neg (fun e => h1 (EN_in e).2)] at hh; exact hh)
        · replace h1 := pI_ne.mp h1
          refine w_blk 4 (pc' := 62) (ls' := [some (.ref 31), some (.ref 5), some (.ref 21), some (.long (lI (KEY (n 0) (obN n c u) s9))), none, some (.int (nI s9)), some (.int (nI (orB (fun d => EN n c u d s9) (fun d => d) k))), some (.int (nI k))]) (sk' := [.int (nI s9), .int (nI k), .ref 5, .ref 21]) (st' := s0) (fun _ h => h) ?_
          have hal := c_allows_5 (d + 0) n c v u yd k s9 s0 hX0 hB hN0 hU hk2 h1
          refine w_callV (As := [.ref 21, .ref 5, .int (nI k), .int (nI s9)]) (rest := []) rfl rfl rfl (Nat.le_of_ble_eq_true rfl) (Nat.le_of_ble_eq_true rfl) (by first | exact Or.inl ⟨rfl, rfl⟩ | exact Or.inr ⟨rfl, rfl⟩) hal ?_
          refine w_if_eq rfl (fun h2 => ?_) (fun h2 => ?_)
          · replace h2 := pI_eq0.mp h2
            refine w_blk 1 (pc' := 80) (ls' := [some (.ref 31), some (.ref 5), some (.ref 21), some (.long (lI (KEY (n 0) (obN n c u) s9))), none, some (.int (nI s9)), some (.int (nI (orB (fun d => EN n c u d s9) (fun d => d) k))), some (.int ((nI k) + 1))]) (sk' := []) (st' := s0) (fun _ h => h) ?_
            rw [show ((nI k) + 1) = nI (k + 1) from nI_add k 1]
            refine w_blk 1 (pc' := 38) (ls' := [some (.ref 31), some (.ref 5), some (.ref 21), some (.long (lI (KEY (n 0) (obN n c u) s9))), none, some (.int (nI s9)), some (.int (nI (orB (fun d => EN n c u d s9) (fun d => d) k))), some (.int (nI (k + 1)))]) (sk' := []) (st' := s0) (fun _ h => h) ?_
            exact (by have hh := ih2 (k + 1) (by omega); rw [show orB (fun d => EN n c u d s9) (fun d => d) (k + 1) = orB (fun d => EN n c u d s9) (fun d => d) k from if_neg (fun e => h2 (of_decide_eq_true e).2.2)] at hh; exact hh)
          · replace h2 := pI_ne.mp h2
            refine w_blk 4 (pc' := 74) (ls' := [some (.ref 31), some (.ref 5), some (.ref 21), some (.long (lI (KEY (n 0) (obN n c u) s9))), none, some (.int (nI s9)), some (.int (nI (orB (fun d => EN n c u d s9) (fun d => d) k))), some (.int (nI k))]) (sk' := [.int (1 <<< ((nI k) &&& 31)), .int (nI (orB (fun d => EN n c u d s9) (fun d => d) k))]) (st' := s0) (fun _ h => h) ?_
            rw [show (1 <<< ((nI k) &&& 31)) = nI (2 ^ k) from nI_shl1 (by omega)]
            refine w_blk 1 (pc' := 75) (ls' := [some (.ref 31), some (.ref 5), some (.ref 21), some (.long (lI (KEY (n 0) (obN n c u) s9))), none, some (.int (nI s9)), some (.int (nI (orB (fun d => EN n c u d s9) (fun d => d) k))), some (.int (nI k))]) (sk' := [.int ((nI (orB (fun d => EN n c u d s9) (fun d => d) k)) ||| (nI (2 ^ k)))]) (st' := s0) (fun _ h => h) ?_
            rw [show ((nI (orB (fun d => EN n c u d s9) (fun d => d) k)) ||| (nI (2 ^ k))) = nI ((orB (fun d => EN n c u d s9) (fun d => d) k) ||| (2 ^ k)) from nI_or (orB (fun d => EN n c u d s9) (fun d => d) k) (2 ^ k)]
            refine w_blk 2 (pc' := 80) (ls' := [some (.ref 31), some (.ref 5), some (.ref 21), some (.long (lI (KEY (n 0) (obN n c u) s9))), none, some (.int (nI s9)), some (.int (nI ((orB (fun d => EN n c u d s9) (fun d => d) k) ||| (2 ^ k)))), some (.int ((nI k) + 1))]) (sk' := []) (st' := s0) (fun _ h => h) ?_
            rw [show ((nI k) + 1) = nI (k + 1) from nI_add k 1]
            refine w_blk 1 (pc' := 38) (ls' := [some (.ref 31), some (.ref 5), some (.ref 21), some (.long (lI (KEY (n 0) (obN n c u) s9))), none, some (.int (nI s9)), some (.int (nI ((orB (fun d => EN n c u d s9) (fun d => d) k) ||| (2 ^ k)))), some (.int (nI (k + 1)))]) (sk' := []) (st' := s0) (fun _ h => h) ?_
            exact (by have hh := ih2 (k + 1) (by omega); rw [show orB (fun d => EN n c u d s9) (fun d => d) (k + 1) = (orB (fun d => EN n c u d s9) (fun d => d) k) ||| (2 ^ k) from if_pos (decide_eq_true ⟨hk2, h1, h2⟩)] at hh; exact hh)
    exact key2 (n 0) 0 (by omega)
set_option maxRecDepth 20000 in
/-- look(crew, present) -/
theorem c_look_13 (d : Nat) (n : Nat → Nat) (c : Nat → Nat → Nat) (v : Nat → Int32) (u : Nat → Nat) (yd : Nat) (st : mSt) (hX : X13 st n c) (hB : CB n c) (hN : N21 st v u yd) (hU : ∀ j, 3 ≤ j → j < 12 → u j < 256) : ∃ (s : mSt), mMC mT (d + 4) 13 [.ref 31, .ref 13, .ref 21] st (some (.long (lI (KEY (n 0) (obN n c u) 8)))) s ∧ (∀ j, j < 8 → s.1 33 j = nI (obN n c u j)) ∧ s.1 31 2 = nI (n 0) ∧ Fr [31, 32, 33] st s ∧ s.1 31 0 = st.1 31 0 ∧ s.2 = st.2 ∧ s.1 32 = st.1 32 := by
  suffices H : ∀ Q : Option Value → mSt → Prop, (∀ (s : mSt), ((∀ j, j < 8 → s.1 33 j = nI (obN n c u j)) ∧ s.1 31 2 = nI (n 0) ∧ Fr [31, 32, 33] st s ∧ s.1 31 0 = st.1 31 0 ∧ s.2 = st.2 ∧ s.1 32 = st.1 32) → Q (some (.long (lI (KEY (n 0) (obN n c u) 8)))) s) → mW (mMC mT (d + 3)) (0, fun _ => 0) (mAtL P_X0_look) (some .long) Q 0 [some (.ref 31), some (.ref 13), some (.ref 21), none, none, none, none, none] [] st by
    obtain ⟨_, _, ⟨s, rfl, rfl, hp⟩, hw⟩ := mW_ex (H (fun vv tt => ∃ (s : mSt),  vv = some (.long (lI (KEY (n 0) (obN n c u) 8))) ∧ s = tt ∧ (∀ j, j < 8 → s.1 33 j = nI (obN n c u j)) ∧ s.1 31 2 = nI (n 0) ∧ Fr [31, 32, 33] st s ∧ s.1 31 0 = st.1 31 0 ∧ s.2 = st.2 ∧ s.1 32 = st.1 32) (fun s hp => ⟨s, rfl, rfl, hp⟩))
    exact ⟨s, mI_X0_look (d := d + 3) (Nat.le_of_ble_eq_true rfl) hw, hp⟩
  intro Q hq
  obtain ⟨hb0, hb1, hb2, hbd, hbs, hby⟩ := id hB
  have ho64 : ∀ s, s < 8 → obN n c u s < 64 := fun s _ => obN_64 hb0 s
  have hky := KEY_bd hb0 ho64
  refine w_blk 3 (pc' := 5) (ls' := [some (.ref 31), some (.ref 13), some (.ref 21), none, none, none, none, none]) (sk' := [.int (st.1 13 0), .ref 31]) (st' := st) (fun _ h => h) ?_
  rw [hX.1]
  refine w_blk 1 (pc' := 7) (ls' := [some (.ref 31), some (.ref 13), some (.ref 21), none, none, none, none, none]) (sk' := [.int 6, .int (nI (n 0)), .ref 31]) (st' := st) (fun _ h => h) ?_
  refine w_callS (As := [.int (nI (n 0)), .int 6]) (rest := [.ref 31]) rfl rfl rfl (Nat.le_of_ble_eq_true rfl) (Nat.le_of_ble_eq_true rfl) (c_minK (d + 2) (n 0) 6 st (by omega) (by omega)) ?_
  rw [show min (n 0) 6 = n 0 by omega]
  refine w_blk 1 (pc' := 13) (ls' := [some (.ref 31), some (.ref 13), some (.ref 21), none, none, none, none, none]) (sk' := []) (st' := ((mU st.1 31 2 (nI (n 0))), st.2)) (fun _ h => h) ?_
  have hFD_2 : (((mU st.1 31 2 (nI (n 0))), st.2)).1 31 2 = nI (n 0) := rfl
  have hF_3 : Fr [31, 32, 33] st ((mU st.1 31 2 (nI (n 0))), st.2) := (Fr.trans Fr.rf (Fr.mU (by decide)))
  have hF0_4 : (((mU st.1 31 2 (nI (n 0))), st.2)).1 31 0 = st.1 31 0 := rfl
  have hF3_5 : (((mU st.1 31 2 (nI (n 0))), st.2)).2 = st.2 := rfl
  have hF32_6 : (((mU st.1 31 2 (nI (n 0))), st.2)).1 32 = st.1 32 := rfl
  generalize ((mU st.1 31 2 (nI (n 0))), st.2) = s1 at hFD_2 hF_3 hF0_4 hF3_5 hF32_6 ⊢
  refine w_blk 2 (pc' := 17) (ls' := [some (.ref 31), some (.ref 13), some (.ref 21), none, none, none, none, none]) (sk' := [.int (s1.1 31 2)]) (st' := s1) (fun _ h => h) ?_
  rw [hFD_2]
  refine w_blk 1 (pc' := 18) (ls' := [some (.ref 31), some (.ref 13), some (.ref 21), none, none, none, none, none]) (sk' := [.long (Int32.toInt64 (nI (n 0)))]) (st' := s1) (fun _ h => h) ?_
  rw [i2l_nI (show n 0 < 2 ^ 31 by omega)]
  refine w_blk 3 (pc' := 22) (ls' := [some (.ref 31), some (.ref 13), some (.ref 21), some (.long (lI (n 0))), none, some (.int 0), none, none]) (sk' := []) (st' := s1) (fun _ h => h) ?_
  suffices key : ∀ (m s9 : Nat) (s0 : mSt) (l6 l7 : Option Value), s9 + m = 8 → (s0.1 31 2 = nI (n 0)) → Fr [31, 32, 33] st s0 → s0.1 31 0 = st.1 31 0 → s0.2 = st.2 → s0.1 32 = st.1 32 → (∀ j, j < s9 → s0.1 33 j = nI (obN n c u j)) → mW (mMC mT (d + 3)) (0, fun _ => 0) (mAtL P_X0_look) (some .long) Q 22 [some (.ref 31), some (.ref 13), some (.ref 21), some (.long (lI (KEY (n 0) (obN n c u) s9))), none, some (.int (nI s9)), l6, l7] [] s0 from key 8 0 s1 none none (by omega) hFD_2 hF_3 hF0_4 hF3_5 hF32_6 (fun j hj => absurd hj (by omega))
  intro m
  induction m with
  | zero =>
    intro s9 s0 l6 l7 hs hFD hF hF0 hF3 hF32 hz
    have hX0 : X13 s0 n c := X13_fr hF (by decide) hX
    have hN0 : N21 s0 v u yd := N21_fr hF (by decide) hN
    obtain rfl : s9 = 8 := by omega
    refine w_blk 4 (pc' := 29) (ls' := [some (.ref 31), some (.ref 13), some (.ref 21), some (.long (lI (KEY (n 0) (obN n c u) 8))), none, some (.int (nI 8)), l6, l7]) (sk' := [.int (Int32.ofNat 8), .int (nI 8)]) (st' := s0) (fun _ h => h) ?_
    rw [show (Int32.ofNat 8) = nI 8 from rfl]
    refine w_cmp_ge rfl (fun _ => ?_) (fun hno => absurd (Int32.le_refl _) hno)
    refine w_blk 1 (pc' := 108) (ls' := [some (.ref 31), some (.ref 13), some (.ref 21), some (.long (lI (KEY (n 0) (obN n c u) 8))), none, some (.int (nI 8)), l6, l7]) (sk' := [.long (lI (KEY (n 0) (obN n c u) 8))]) (st' := s0) (fun _ h => h) ?_
    exact w_lret rfl rfl (hq s0 ⟨hz, hFD, hF, hF0, hF3, hF32⟩)
  | succ m ih =>
    intro s9 s0 l6 l7 hs hFD hF hF0 hF3 hF32 hz
    have hX0 : X13 s0 n c := X13_fr hF (by decide) hX
    have hN0 : N21 s0 v u yd := N21_fr hF (by decide) hN
    have hs8 : s9 < 8 := by omega
    have hk9 := hky s9 (by omega)
    have h56 : KEY (n 0) (obN n c u) s9 < 2 ^ 56 := Nat.lt_of_lt_of_le hk9 (Nat.le_trans (Nat.mul_le_mul_left 7 (Nat.pow_le_pow_right (n := 64) (by decide) (show s9 ≤ 7 by omega))) (by decide))
    have ho9 := ho64 s9 hs8
    refine w_blk 4 (pc' := 29) (ls' := [some (.ref 31), some (.ref 13), some (.ref 21), some (.long (lI (KEY (n 0) (obN n c u) s9))), none, some (.int (nI s9)), l6, l7]) (sk' := [.int (Int32.ofNat 8), .int (nI s9)]) (st' := s0) (fun _ h => h) ?_
    rw [show (Int32.ofNat 8) = nI 8 from rfl]
    refine w_cmp_ge rfl (fun hno => absurd hno (nI_ge hs8 (by omega))) (fun _ => ?_)
    refine w_blk 4 (pc' := 38) (ls' := [some (.ref 31), some (.ref 13), some (.ref 21), some (.long (lI (KEY (n 0) (obN n c u) s9))), none, some (.int (nI s9)), some (.int 0), some (.int 0)]) (sk' := []) (st' := s0) (fun _ h => h) ?_
    have key2 : ∀ (m k : Nat), k + m = n 0 → mW (mMC mT (d + 3)) (0, fun _ => 0) (mAtL P_X0_look) (some .long) Q 38 [some (.ref 31), some (.ref 13), some (.ref 21), some (.long (lI (KEY (n 0) (obN n c u) s9))), none, some (.int (nI s9)), some (.int (nI (orB (fun d => EN n c u d s9) (fun d => d) k))), some (.int (nI k))] [] s0 := by
      intro m
      induction m with
      | zero =>
        intro k hk
        obtain rfl : n 0 = k := by omega
        refine w_blk 3 (pc' := 44) (ls' := [some (.ref 31), some (.ref 13), some (.ref 21), some (.long (lI (KEY (n 0) (obN n c u) s9))), none, some (.int (nI s9)), some (.int (nI (orB (fun d => EN n c u d s9) (fun d => d) (n 0)))), some (.int (nI (n 0)))]) (sk' := [.int (s0.1 31 2), .int (nI (n 0))]) (st' := s0) (fun _ h => h) ?_
        rw [hFD]
        refine w_cmp_ge rfl (fun _ => ?_) (fun hno => absurd (Int32.le_refl _) hno)
        refine w_blk 4 (pc' := 91) (ls' := [some (.ref 31), some (.ref 13), some (.ref 21), some (.long (lI (KEY (n 0) (obN n c u) s9))), none, some (.int (nI s9)), some (.int (nI (orB (fun d => EN n c u d s9) (fun d => d) (n 0)))), some (.int (nI (n 0)))]) (sk' := [.int (nI (orB (fun d => EN n c u d s9) (fun d => d) (n 0))), .int (nI s9), .ref 33]) (st' := s0) (fun _ h => h) ?_
        refine w_iast rfl rfl (vp_in_nI (n := s9) (N := 8) (by omega) (by decide)) ?_
        rw [nI_clamp (show s9 < 2 ^ 31 by omega)]
        refine w_blk 3 (pc' := 96) (ls' := [some (.ref 31), some (.ref 13), some (.ref 21), some (.long (lI (KEY (n 0) (obN n c u) s9))), none, some (.int (nI s9)), some (.int (nI (orB (fun d => EN n c u d s9) (fun d => d) (n 0)))), some (.int (nI (n 0)))]) (sk' := [.long ((lI (KEY (n 0) (obN n c u) s9)) <<< (Int32.toInt64 6 &&& 63))]) (st' := ((mU s0.1 33 s9 (nI (orB (fun d => EN n c u d s9) (fun d => d) (n 0)))), s0.2)) (fun _ h => h) ?_
        rw [lI_shl6 h56]
        refine w_blk 2 (pc' := 99) (ls' := [some (.ref 31), some (.ref 13), some (.ref 21), some (.long (lI (KEY (n 0) (obN n c u) s9))), none, some (.int (nI s9)), some (.int (nI (orB (fun d => EN n c u d s9) (fun d => d) (n 0)))), some (.int (nI (n 0)))]) (sk' := [.long (Int32.toInt64 (nI (orB (fun d => EN n c u d s9) (fun d => d) (n 0)))), .long (lI (KEY (n 0) (obN n c u) s9 * 64))]) (st' := ((mU s0.1 33 s9 (nI (orB (fun d => EN n c u d s9) (fun d => d) (n 0)))), s0.2)) (fun _ h => h) ?_
        rw [i2l_nI (show orB (fun d => EN n c u d s9) (fun d => d) (n 0) < 2 ^ 31 from Nat.lt_trans ho9 (by decide))]
        refine w_blk 1 (pc' := 100) (ls' := [some (.ref 31), some (.ref 13), some (.ref 21), some (.long (lI (KEY (n 0) (obN n c u) s9))), none, some (.int (nI s9)), some (.int (nI (orB (fun d => EN n c u d s9) (fun d => d) (n 0)))), some (.int (nI (n 0)))]) (sk' := [.long ((lI (KEY (n 0) (obN n c u) s9 * 64)) ||| (lI (orB (fun d => EN n c u d s9) (fun d => d) (n 0))))]) (st' := ((mU s0.1 33 s9 (nI (orB (fun d => EN n c u d s9) (fun d => d) (n 0)))), s0.2)) (fun _ h => h) ?_
        rw [lI_or]
        refine w_blk 2 (pc' := 104) (ls' := [some (.ref 31), some (.ref 13), some (.ref 21), some (.long (lI (KEY (n 0) (obN n c u) s9 * 64 ||| orB (fun d => EN n c u d s9) (fun d => d) (n 0)))), none, some (.int ((nI s9) + 1)), some (.int (nI (orB (fun d => EN n c u d s9) (fun d => d) (n 0)))), some (.int (nI (n 0)))]) (sk' := []) (st' := ((mU s0.1 33 s9 (nI (orB (fun d => EN n c u d s9) (fun d => d) (n 0)))), s0.2)) (fun _ h => h) ?_
        rw [show ((nI s9) + 1) = nI (s9 + 1) from nI_add s9 1]
        refine w_blk 1 (pc' := 22) (ls' := [some (.ref 31), some (.ref 13), some (.ref 21), some (.long (lI (KEY (n 0) (obN n c u) s9 * 64 ||| orB (fun d => EN n c u d s9) (fun d => d) (n 0)))), none, some (.int (nI (s9 + 1))), some (.int (nI (orB (fun d => EN n c u d s9) (fun d => d) (n 0)))), some (.int (nI (n 0)))]) (sk' := []) (st' := ((mU s0.1 33 s9 (nI (orB (fun d => EN n c u d s9) (fun d => d) (n 0)))), s0.2)) (fun _ h => h) ?_
        exact ih (s9 + 1) ((mU s0.1 33 s9 (nI (orB (fun d => EN n c u d s9) (fun d => d) (n 0)))), s0.2) _ _ (by omega) hFD (Fr.trans hF (Fr.mU (by decide))) hF0 hF3 hF32 (fun j hj => if ej : j = s9 then (by rw [ej]; exact mU_at (f := s0.1) (p := 33) (k := s9)) else (mU_row ej).trans (hz j (by omega)))
      | succ m ih2 =>
        intro k hk
        have hk2 : k < n 0 := by omega
        refine w_blk 3 (pc' := 44) (ls' := [some (.ref 31), some (.ref 13), some (.ref 21), some (.long (lI (KEY (n 0) (obN n c u) s9))), none, some (.int (nI s9)), some (.int (nI (orB (fun d => EN n c u d s9) (fun d => d) k))), some (.int (nI k))]) (sk' := [.int (s0.1 31 2), .int (nI k)]) (st' := s0) (fun _ h => h) ?_
        rw [hFD]
        refine w_cmp_ge rfl (fun hno => absurd hno (nI_ge hk2 (by omega))) (fun _ => ?_)
        refine w_blk 2 (pc' := 50) (ls' := [some (.ref 31), some (.ref 13), some (.ref 21), some (.long (lI (KEY (n 0) (obN n c u) s9))), none, some (.int (nI s9)), some (.int (nI (orB (fun d => EN n c u d s9) (fun d => d) k))), some (.int (nI k))]) (sk' := [.int (nI s9), .ref 13]) (st' := s0) (fun _ h => h) ?_
        refine w_callV (As := [.ref 13, .int (nI s9)]) (rest := []) rfl rfl rfl (Nat.le_of_ble_eq_true rfl) (Nat.le_of_ble_eq_true rfl) (by first | exact Or.inl ⟨rfl, rfl⟩ | exact Or.inr ⟨rfl, rfl⟩) (c_hasSpade_13 (d + 2) (nI s9) s0) ?_
        rw [hX0.2.1]
        rw [pI_in2 (a := s9) (b := n 1) (by omega) (by omega)]
        refine w_if_eq rfl (fun h1 => ?_) (fun h1 => ?_)
        · replace h1 := pI_eq0.mp h1
          refine w_blk 1 (pc' := 80) (ls' := [some (.ref 31), some (.ref 13), some (.ref 21), some (.long (lI (KEY (n 0) (obN n c u) s9))), none, some (.int (nI s9)), some (.int (nI (orB (fun d => EN n c u d s9) (fun d => d) k))), some (.int ((nI k) + 1))]) (sk' := []) (st' := s0) (fun _ h => h) ?_
          rw [show ((nI k) + 1) = nI (k + 1) from nI_add k 1]
          refine w_blk 1 (pc' := 38) (ls' := [some (.ref 31), some (.ref 13), some (.ref 21), some (.long (lI (KEY (n 0) (obN n c u) s9))), none, some (.int (nI s9)), some (.int (nI (orB (fun d => EN n c u d s9) (fun d => d) k))), some (.int (nI (k + 1)))]) (sk' := []) (st' := s0) (fun _ h => h) ?_
          exact (by have hh := ih2 (k + 1) (by omega); rw [show orB (fun d => EN n c u d s9) (fun d => d) (k + 1) = orB (fun d => EN n c u d s9) (fun d => d) k from if_neg (fun e => h1 (EN_in e).2)] at hh; exact hh)
        · replace h1 := pI_ne.mp h1
          refine w_blk 4 (pc' := 62) (ls' := [some (.ref 31), some (.ref 13), some (.ref 21), some (.long (lI (KEY (n 0) (obN n c u) s9))), none, some (.int (nI s9)), some (.int (nI (orB (fun d => EN n c u d s9) (fun d => d) k))), some (.int (nI k))]) (sk' := [.int (nI s9), .int (nI k), .ref 13, .ref 21]) (st' := s0) (fun _ h => h) ?_
          have hal := c_allows_13 (d + 0) n c v u yd k s9 s0 hX0 hB hN0 hU hk2 h1
          refine w_callV (As := [.ref 21, .ref 13, .int (nI k), .int (nI s9)]) (rest := []) rfl rfl rfl (Nat.le_of_ble_eq_true rfl) (Nat.le_of_ble_eq_true rfl) (by first | exact Or.inl ⟨rfl, rfl⟩ | exact Or.inr ⟨rfl, rfl⟩) hal ?_
          refine w_if_eq rfl (fun h2 => ?_) (fun h2 => ?_)
          · replace h2 := pI_eq0.mp h2
            refine w_blk 1 (pc' := 80) (ls' := [some (.ref 31), some (.ref 13), some (.ref 21), some (.long (lI (KEY (n 0) (obN n c u) s9))), none, some (.int (nI s9)), some (.int (nI (orB (fun d => EN n c u d s9) (fun d => d) k))), some (.int ((nI k) + 1))]) (sk' := []) (st' := s0) (fun _ h => h) ?_
            rw [show ((nI k) + 1) = nI (k + 1) from nI_add k 1]
            refine w_blk 1 (pc' := 38) (ls' := [some (.ref 31), some (.ref 13), some (.ref 21), some (.long (lI (KEY (n 0) (obN n c u) s9))), none, some (.int (nI s9)), some (.int (nI (orB (fun d => EN n c u d s9) (fun d => d) k))), some (.int (nI (k + 1)))]) (sk' := []) (st' := s0) (fun _ h => h) ?_
            exact (by have hh := ih2 (k + 1) (by omega); rw [show orB (fun d => EN n c u d s9) (fun d => d) (k + 1) = orB (fun d => EN n c u d s9) (fun d => d) k from if_neg (fun e => h2 (of_decide_eq_true e).2.2)] at hh; exact hh)
          · replace h2 := pI_ne.mp h2
            refine w_blk 4 (pc' := 74) (ls' := [some (.ref 31), some (.ref 13), some (.ref 21), some (.long (lI (KEY (n 0) (obN n c u) s9))), none, some (.int (nI s9)), some (.int (nI (orB (fun d => EN n c u d s9) (fun d => d) k))), some (.int (nI k))]) (sk' := [.int (1 <<< ((nI k) &&& 31)), .int (nI (orB (fun d => EN n c u d s9) (fun d => d) k))]) (st' := s0) (fun _ h => h) ?_
            rw [show (1 <<< ((nI k) &&& 31)) = nI (2 ^ k) from nI_shl1 (by omega)]
            refine w_blk 1 (pc' := 75) (ls' := [some (.ref 31), some (.ref 13), some (.ref 21), some (.long (lI (KEY (n 0) (obN n c u) s9))), none, some (.int (nI s9)), some (.int (nI (orB (fun d => EN n c u d s9) (fun d => d) k))), some (.int (nI k))]) (sk' := [.int ((nI (orB (fun d => EN n c u d s9) (fun d => d) k)) ||| (nI (2 ^ k)))]) (st' := s0) (fun _ h => h) ?_
            rw [show ((nI (orB (fun d => EN n c u d s9) (fun d => d) k)) ||| (nI (2 ^ k))) = nI ((orB (fun d => EN n c u d s9) (fun d => d) k) ||| (2 ^ k)) from nI_or (orB (fun d => EN n c u d s9) (fun d => d) k) (2 ^ k)]
            refine w_blk 2 (pc' := 80) (ls' := [some (.ref 31), some (.ref 13), some (.ref 21), some (.long (lI (KEY (n 0) (obN n c u) s9))), none, some (.int (nI s9)), some (.int (nI ((orB (fun d => EN n c u d s9) (fun d => d) k) ||| (2 ^ k)))), some (.int ((nI k) + 1))]) (sk' := []) (st' := s0) (fun _ h => h) ?_
            rw [show ((nI k) + 1) = nI (k + 1) from nI_add k 1]
            refine w_blk 1 (pc' := 38) (ls' := [some (.ref 31), some (.ref 13), some (.ref 21), some (.long (lI (KEY (n 0) (obN n c u) s9))), none, some (.int (nI s9)), some (.int (nI ((orB (fun d => EN n c u d s9) (fun d => d) k) ||| (2 ^ k)))), some (.int (nI (k + 1)))]) (sk' := []) (st' := s0) (fun _ h => h) ?_
            exact (by have hh := ih2 (k + 1) (by omega); rw [show orB (fun d => EN n c u d s9) (fun d => d) (k + 1) = (orB (fun d => EN n c u d s9) (fun d => d) k) ||| (2 ^ k) from if_pos (decide_eq_true ⟨hk2, h1, h2⟩)] at hh; exact hh)
    exact key2 (n 0) 0 (by omega)
set_option maxRecDepth 20000 in
/-- work(crew, present) -/
theorem c_work_5 (d : Nat) (n : Nat → Nat) (c : Nat → Nat → Nat) (v : Nat → Int32) (u : Nat → Nat) (yd : Nat) (st : mSt) (hX : X5 st n c) (hB : CB n c) (hN : N21 st v u yd) (hU : ∀ j, 3 ≤ j → j < 12 → u j < 256) (hI : IFol st) : ∃ (R : Nat) (s : mSt), mMC mT (d + 17) 12 [.ref 31, .ref 5, .ref 21] st (none) s ∧ LGR (fun q => hallB (EN n c u) q (n 0)) (n 0) R ∧ s.1 31 0 = nI R ∧ (R ≠ 0 → ∃ ρ, FST (EN n c u) (n 0) R ρ ∧ ∀ k, k < n 0 → s.1 32 k = nI (ρ k)) ∧ IFol s ∧ Fr [31, 32, 33] st s := by
  suffices H : ∀ Q : Option Value → mSt → Prop, (∀ (R : Nat) (s : mSt), (LGR (fun q => hallB (EN n c u) q (n 0)) (n 0) R ∧ s.1 31 0 = nI R ∧ (R ≠ 0 → ∃ ρ, FST (EN n c u) (n 0) R ρ ∧ ∀ k, k < n 0 → s.1 32 k = nI (ρ k)) ∧ IFol s ∧ Fr [31, 32, 33] st s) → Q (none) s) → mW (mMC mT (d + 16)) (0, fun _ => 0) (mAtL P_X0_work) none Q 0 [some (.ref 31), some (.ref 5), some (.ref 21), none, none] [] st by
    obtain ⟨_, _, ⟨R, s, rfl, rfl, hp⟩, hw⟩ := mW_ex (H (fun vv tt => ∃ (R : Nat) (s : mSt),  vv = none ∧ s = tt ∧ LGR (fun q => hallB (EN n c u) q (n 0)) (n 0) R ∧ s.1 31 0 = nI R ∧ (R ≠ 0 → ∃ ρ, FST (EN n c u) (n 0) R ρ ∧ ∀ k, k < n 0 → s.1 32 k = nI (ρ k)) ∧ IFol s ∧ Fr [31, 32, 33] st s) (fun R s hp => ⟨R, s, rfl, rfl, hp⟩))
    exact ⟨R, s, mI_X0_work (d := d + 16) (Nat.le_of_ble_eq_true rfl) hw, hp⟩
  intro Q hq
  obtain ⟨hb0, hb1, hb2, hbd, hbs, hby⟩ := id hB
  have ho64 : ∀ s, s < 8 → obN n c u s < 64 := fun s _ => obN_64 hb0 s
  have hky := KEY_bd hb0 ho64 8 (Nat.le_refl _)
  have hEO := EN_EOb (c := c) (u := u) hb0 hb1
  obtain ⟨s1, hc1, hO1, hD1, hf1, h10, h1L, h132⟩ := c_look_5 (d + 12) n c v u yd st hX hB hN hU
  refine w_blk 3 (pc' := 3) (ls' := [some (.ref 31), some (.ref 5), some (.ref 21), none, none]) (sk' := [.ref 21, .ref 5, .ref 31]) (st' := st) (fun _ h => h) ?_
  refine w_callV (As := [.ref 31, .ref 5, .ref 21]) (rest := []) rfl rfl rfl (Nat.le_of_ble_eq_true rfl) (Nat.le_of_ble_eq_true rfl) (by first | exact Or.inl ⟨rfl, rfl⟩ | exact Or.inr ⟨rfl, rfl⟩) hc1 ?_
  refine w_blk 5 (pc' := 13) (ls' := [some (.ref 31), some (.ref 5), some (.ref 21), some (.long (lI (KEY (n 0) (obN n c u) 8))), none]) (sk' := [.int (lg_cmp (lI (KEY (n 0) (obN n c u) 8)) (s1.2 31 3))]) (st' := s1) (fun _ h => h) ?_
  obtain ⟨kn, hkn⟩ : ∃ kn, s1.2 31 3 = kn := ⟨_, rfl⟩
  rw [hkn]
  refine w_if_ne rfl (fun h1 => ?_) (fun h1 => ?_)
  · refine w_blk 3 (pc' := 22) (ls' := [some (.ref 31), some (.ref 5), some (.ref 21), some (.long (lI (KEY (n 0) (obN n c u) 8))), none]) (sk' := []) (st' := (s1.1, (mUL s1.2 31 3 (lI (KEY (n 0) (obN n c u) 8))))) (fun _ h => h) ?_
    have hFD_2 : ((s1.1, (mUL s1.2 31 3 (lI (KEY (n 0) (obN n c u) 8))))).1 31 2 = nI (n 0) := hD1
    have hO_3 : FO (s1.1, (mUL s1.2 31 3 (lI (KEY (n 0) (obN n c u) 8)))) (obN n c u) := hO1
    have hK_4 : ((s1.1, (mUL s1.2 31 3 (lI (KEY (n 0) (obN n c u) 8))))).2 31 3 = lI (KEY (n 0) (obN n c u) 8) := (show mUL s1.2 31 3 (lI (KEY (n 0) (obN n c u) 8)) 31 3 = _ from mUL_at)
    have hF_5 : Fr [31, 32, 33] st (s1.1, (mUL s1.2 31 3 (lI (KEY (n 0) (obN n c u) 8)))) := (Fr.trans hf1 (Fr.mUL (by decide)))
    generalize (s1.1, (mUL s1.2 31 3 (lI (KEY (n 0) (obN n c u) 8)))) = s1 at hFD_2 hO_3 hK_4 hF_5 ⊢
    have hOB : OBE (obN n c u) (EN n c u) := fun s hs => ⟨ho64 s hs, fun d hd => obN_bit⟩
    have hE9 : ∀ d s, d < 6 → s < 8 → EN n c u d s = true → d < n 0 := fun d s _ _ h => (EN_in h).1
    obtain ⟨R, s9, hc2, hlg, rfl⟩ := c_findRounds (d + 12) n (EN n c u) (obN n c u) s1 hb0 hFD_2 hO_3 hOB
    have hR8 := hlg.1
    refine w_blk 2 (pc' := 24) (ls' := [some (.ref 31), some (.ref 5), some (.ref 21), some (.long (lI (KEY (n 0) (obN n c u) 8))), none]) (sk' := [.ref 31, .ref 31]) (st' := s1) (fun _ h => h) ?_
    refine w_callV (As := [.ref 31]) (rest := [.ref 31]) rfl rfl rfl (Nat.le_of_ble_eq_true rfl) (Nat.le_of_ble_eq_true rfl) (by first | exact Or.inl ⟨rfl, rfl⟩ | exact Or.inr ⟨rfl, rfl⟩) hc2 ?_
    refine w_blk 1 (pc' := 30) (ls' := [some (.ref 31), some (.ref 5), some (.ref 21), some (.long (lI (KEY (n 0) (obN n c u) 8))), none]) (sk' := []) (st' := ((mU s1.1 31 0 (nI R)), s1.2)) (fun _ h => h) ?_
    have hFD_7 : (((mU s1.1 31 0 (nI R)), s1.2)).1 31 2 = nI (n 0) := hFD_2
    have hO_8 : FO ((mU s1.1 31 0 (nI R)), s1.2) (obN n c u) := hO_3
    have hK_9 : (((mU s1.1 31 0 (nI R)), s1.2)).2 31 3 = lI (KEY (n 0) (obN n c u) 8) := hK_4
    have hF_10 : Fr [31, 32, 33] st ((mU s1.1 31 0 (nI R)), s1.2) := (Fr.trans hF_5 (Fr.mU (by decide)))
    have hR_11 : (((mU s1.1 31 0 (nI R)), s1.2)).1 31 0 = nI R := mU_at (f := s1.1) (p := 31) (k := 0)
    generalize ((mU s1.1 31 0 (nI R)), s1.2) = s6 at hFD_7 hO_8 hK_9 hF_10 hR_11 ⊢
    refine w_blk 2 (pc' := 34) (ls' := [some (.ref 31), some (.ref 5), some (.ref 21), some (.long (lI (KEY (n 0) (obN n c u) 8))), none]) (sk' := [.int (s6.1 31 0)]) (st' := s6) (fun _ h => h) ?_
    rw [hR_11]
    refine w_if_le rfl (fun h2 => ?_) (fun h2 => ?_)
    · replace h2 : R ≤ 0 := (nI_leI (a := R) (b := 0) (by omega) (by omega)).mp h2
      have hR0 : R = 0 := by omega
      exact w_vret rfl rfl (hq R s6 ⟨hlg, hR_11, fun hh => absurd hR0 hh, Or.inr ⟨n 0, obN n c u, R, hb0, ho64, hK_9, (by rw [← hEO]; exact hlg), hR_11, fun hh => absurd hR0 hh⟩, hF_10⟩)
    · replace h2 : ¬ (R ≤ 0) := fun hh => h2 ((nI_leI (a := R) (b := 0) (by omega) (by omega)).mpr hh)
      have hR1 : 1 ≤ R := by omega
      obtain ⟨ρ, hF⟩ := FST_ex (OKR_ex hR1 hb0 hE9 (hallB_iff.mp (hlg.2.1 R hR1 (Nat.le_refl _))))
      have hpl := t_all n (EN n c u) R ρ hb0 hE9 hR1 hR8 hF (n 0) (d + (12 - 2 * n 0))
      rw [show d + (12 - 2 * n 0) + 2 * n 0 + 4 = d + 16 by omega] at hpl
      obtain ⟨z, s5, hc5, hf5, hy5, -⟩ := hpl 0 ρ (obN n c u) s6 (by omega) ⟨⟨fun k hk => absurd hk (Nat.not_lt_zero _), fun k e hk => absurd hk (Nat.not_lt_zero _)⟩, Or.inl ⟨fun k hk => absurd hk (Nat.not_lt_zero _), Nat.zero_le _⟩, hFD_7, hR_11, hO_8, (fun s hs => ⟨ho64 s hs, fun d hd => obN_bit.trans ⟨fun h => Em_iff.mpr ⟨h, fun h9 => absurd h9.1 (Nat.not_lt_zero _)⟩, fun h => (Em_iff.mp h).1⟩⟩), fun k hk => absurd hk (Nat.not_lt_zero _)⟩
      obtain ⟨-, hrow⟩ := hy5 (fun k hk => absurd hk (Nat.not_lt_zero _))
      have hK5 : s5.2 31 3 = lI (KEY (n 0) (obN n c u) 8) := by rw [hf5.2 31 (by decide)]; exact hK_9
      have hR5 : s5.1 31 0 = nI R := by rw [hf5.1 31 (by decide)]; exact hR_11
      refine w_blk 3 (pc' := 40) (ls' := [some (.ref 31), some (.ref 5), some (.ref 21), some (.long (lI (KEY (n 0) (obN n c u) 8))), none]) (sk' := [.int 0, .int 0, .ref 31]) (st' := s6) (fun _ h => h) ?_
      refine w_callV (As := [.ref 31, .int 0, .int 0]) (rest := []) rfl rfl rfl (Nat.le_of_ble_eq_true rfl) (Nat.le_of_ble_eq_true rfl) (by first | exact Or.inl ⟨rfl, rfl⟩ | exact Or.inr ⟨rfl, rfl⟩) hc5 ?_
      refine w_blk 1 (pc' := 44) (ls' := [some (.ref 31), some (.ref 5), some (.ref 21), some (.long (lI (KEY (n 0) (obN n c u) 8))), none]) (sk' := []) (st' := s5) (fun _ h => h) ?_
      exact w_vret rfl rfl (hq R s5 ⟨hlg, hR5, fun _ => ⟨ρ, hF, hrow⟩, Or.inr ⟨n 0, obN n c u, R, hb0, ho64, hK5, (by rw [← hEO]; exact hlg), hR5, fun _ => ⟨ρ, by rw [← hEO]; exact hF, hrow⟩⟩, Fr.trans hF_10 (Fr.mono hf5 (by decide))⟩)
  · have heq : lI (KEY (n 0) (obN n c u) 8) = kn := (lg_cmp_eq _ _).mp (Decidable.not_not.mp h1)
    have h63 : KEY (n 0) (obN n c u) 8 < 2 ^ 63 := Nat.lt_of_lt_of_le hky (by decide)
    have hk3 : st.2 31 3 = kn := by rw [← h1L]; exact hkn
    rcases id hI with h9 | ⟨nd, ob, R, g1, g2, g3, g4, g5, g6⟩
    · exfalso
      rw [h9] at hk3
      rw [← hk3] at heq
      have h8 := congrArg Int64.toInt heq
      rw [lI_toInt h63] at h8
      have h7 : (-1 : Int64).toInt = -1 := rfl
      omega
    · have g7 := KEY_bd g1 g2 8 (Nat.le_refl _)
      have h62 : KEY nd ob 8 < 2 ^ 63 := Nat.lt_of_lt_of_le g7 (by decide)
      rw [g3] at hk3
      rw [← hk3] at heq
      have h8 := congrArg Int64.toInt heq
      rw [lI_toInt h63, lI_toInt h62] at h8
      obtain ⟨e1, e2⟩ := KEY_inj 8 (Nat.le_refl _) ho64 g2 (Int.ofNat.inj h8)
      have e3 : EN n c u = EOb ob := hEO.trans (EOb_cong e2)
      subst e1
      have hIs : IFol s1 := by
        unfold IFol
        rw [h1L, h10, h132]
        exact hI
      exact w_vret rfl rfl (hq R s1 ⟨by rw [e3]; exact g4, by rw [h10]; exact g5, fun hh => by obtain ⟨ρ, k1, k2⟩ := g6 hh; exact ⟨ρ, by rw [e3]; exact k1, fun k hk => by rw [h132]; exact k2 k hk⟩, hIs, hf1⟩)
set_option maxRecDepth 20000 in
/-- work(crew, present) -/
theorem c_work_13 (d : Nat) (n : Nat → Nat) (c : Nat → Nat → Nat) (v : Nat → Int32) (u : Nat → Nat) (yd : Nat) (st : mSt) (hX : X13 st n c) (hB : CB n c) (hN : N21 st v u yd) (hU : ∀ j, 3 ≤ j → j < 12 → u j < 256) (hI : IFol st) : ∃ (R : Nat) (s : mSt), mMC mT (d + 17) 12 [.ref 31, .ref 13, .ref 21] st (none) s ∧ LGR (fun q => hallB (EN n c u) q (n 0)) (n 0) R ∧ s.1 31 0 = nI R ∧ (R ≠ 0 → ∃ ρ, FST (EN n c u) (n 0) R ρ ∧ ∀ k, k < n 0 → s.1 32 k = nI (ρ k)) ∧ IFol s ∧ Fr [31, 32, 33] st s := by
  suffices H : ∀ Q : Option Value → mSt → Prop, (∀ (R : Nat) (s : mSt), (LGR (fun q => hallB (EN n c u) q (n 0)) (n 0) R ∧ s.1 31 0 = nI R ∧ (R ≠ 0 → ∃ ρ, FST (EN n c u) (n 0) R ρ ∧ ∀ k, k < n 0 → s.1 32 k = nI (ρ k)) ∧ IFol s ∧ Fr [31, 32, 33] st s) → Q (none) s) → mW (mMC mT (d + 16)) (0, fun _ => 0) (mAtL P_X0_work) none Q 0 [some (.ref 31), some (.ref 13), some (.ref 21), none, none] [] st by
    obtain ⟨_, _, ⟨R, s, rfl, rfl, hp⟩, hw⟩ := mW_ex (H (fun vv tt => ∃ (R : Nat) (s : mSt),  vv = none ∧ s = tt ∧ LGR (fun q => hallB (EN n c u) q (n 0)) (n 0) R ∧ s.1 31 0 = nI R ∧ (R ≠ 0 → ∃ ρ, FST (EN n c u) (n 0) R ρ ∧ ∀ k, k < n 0 → s.1 32 k = nI (ρ k)) ∧ IFol s ∧ Fr [31, 32, 33] st s) (fun R s hp => ⟨R, s, rfl, rfl, hp⟩))
    exact ⟨R, s, mI_X0_work (d := d + 16) (Nat.le_of_ble_eq_true rfl) hw, hp⟩
  intro Q hq
  obtain ⟨hb0, hb1, hb2, hbd, hbs, hby⟩ := id hB
  have ho64 : ∀ s, s < 8 → obN n c u s < 64 := fun s _ => obN_64 hb0 s
  have hky := KEY_bd hb0 ho64 8 (Nat.le_refl _)
  have hEO := EN_EOb (c := c) (u := u) hb0 hb1
  obtain ⟨s1, hc1, hO1, hD1, hf1, h10, h1L, h132⟩ := c_look_13 (d + 12) n c v u yd st hX hB hN hU
  refine w_blk 3 (pc' := 3) (ls' := [some (.ref 31), some (.ref 13), some (.ref 21), none, none]) (sk' := [.ref 21, .ref 13, .ref 31]) (st' := st) (fun _ h => h) ?_
  refine w_callV (As := [.ref 31, .ref 13, .ref 21]) (rest := []) rfl rfl rfl (Nat.le_of_ble_eq_true rfl) (Nat.le_of_ble_eq_true rfl) (by first | exact Or.inl ⟨rfl, rfl⟩ | exact Or.inr ⟨rfl, rfl⟩) hc1 ?_
  refine w_blk 5 (pc' := 13) (ls' := [some (.ref 31), some (.ref 13), some (.ref 21), some (.long (lI (KEY (n 0) (obN n c u) 8))), none]) (sk' := [.int (lg_cmp (lI (KEY (n 0) (obN n c u) 8)) (s1.2 31 3))]) (st' := s1) (fun _ h => h) ?_
  obtain ⟨kn, hkn⟩ : ∃ kn, s1.2 31 3 = kn := ⟨_, rfl⟩
  rw [hkn]
  refine w_if_ne rfl (fun h1 => ?_) (fun h1 => ?_)
  · refine w_blk 3 (pc' := 22) (ls' := [some (.ref 31), some (.ref 13), some (.ref 21), some (.long (lI (KEY (n 0) (obN n c u) 8))), none]) (sk' := []) (st' := (s1.1, (mUL s1.2 31 3 (lI (KEY (n 0) (obN n c u) 8))))) (fun _ h => h) ?_
    have hFD_2 : ((s1.1, (mUL s1.2 31 3 (lI (KEY (n 0) (obN n c u) 8))))).1 31 2 = nI (n 0) := hD1
    have hO_3 : FO (s1.1, (mUL s1.2 31 3 (lI (KEY (n 0) (obN n c u) 8)))) (obN n c u) := hO1
    have hK_4 : ((s1.1, (mUL s1.2 31 3 (lI (KEY (n 0) (obN n c u) 8))))).2 31 3 = lI (KEY (n 0) (obN n c u) 8) := (show mUL s1.2 31 3 (lI (KEY (n 0) (obN n c u) 8)) 31 3 = _ from mUL_at)
    have hF_5 : Fr [31, 32, 33] st (s1.1, (mUL s1.2 31 3 (lI (KEY (n 0) (obN n c u) 8)))) := (Fr.trans hf1 (Fr.mUL (by decide)))
    generalize (s1.1, (mUL s1.2 31 3 (lI (KEY (n 0) (obN n c u) 8)))) = s1 at hFD_2 hO_3 hK_4 hF_5 ⊢
    have hOB : OBE (obN n c u) (EN n c u) := fun s hs => ⟨ho64 s hs, fun d hd => obN_bit⟩
    have hE9 : ∀ d s, d < 6 → s < 8 → EN n c u d s = true → d < n 0 := fun d s _ _ h => (EN_in h).1
    obtain ⟨R, s9, hc2, hlg, rfl⟩ := c_findRounds (d + 12) n (EN n c u) (obN n c u) s1 hb0 hFD_2 hO_3 hOB
    have hR8 := hlg.1
    refine w_blk 2 (pc' := 24) (ls' := [some (.ref 31), some (.ref 13), some (.ref 21), some (.long (lI (KEY (n 0) (obN n c u) 8))), none]) (sk' := [.ref 31, .ref 31]) (st' := s1) (fun _ h => h) ?_
    refine w_callV (As := [.ref 31]) (rest := [.ref 31]) rfl rfl rfl (Nat.le_of_ble_eq_true rfl) (Nat.le_of_ble_eq_true rfl) (by first | exact Or.inl ⟨rfl, rfl⟩ | exact Or.inr ⟨rfl, rfl⟩) hc2 ?_
    refine w_blk 1 (pc' := 30) (ls' := [some (.ref 31), some (.ref 13), some (.ref 21), some (.long (lI (KEY (n 0) (obN n c u) 8))), none]) (sk' := []) (st' := ((mU s1.1 31 0 (nI R)), s1.2)) (fun _ h => h) ?_
    have hFD_7 : (((mU s1.1 31 0 (nI R)), s1.2)).1 31 2 = nI (n 0) := hFD_2
    have hO_8 : FO ((mU s1.1 31 0 (nI R)), s1.2) (obN n c u) := hO_3
    have hK_9 : (((mU s1.1 31 0 (nI R)), s1.2)).2 31 3 = lI (KEY (n 0) (obN n c u) 8) := hK_4
    have hF_10 : Fr [31, 32, 33] st ((mU s1.1 31 0 (nI R)), s1.2) := (Fr.trans hF_5 (Fr.mU (by decide)))
    have hR_11 : (((mU s1.1 31 0 (nI R)), s1.2)).1 31 0 = nI R := mU_at (f := s1.1) (p := 31) (k := 0)
    generalize ((mU s1.1 31 0 (nI R)), s1.2) = s6 at hFD_7 hO_8 hK_9 hF_10 hR_11 ⊢
    refine w_blk 2 (pc' := 34) (ls' := [some (.ref 31), some (.ref 13), some (.ref 21), some (.long (lI (KEY (n 0) (obN n c u) 8))), none]) (sk' := [.int (s6.1 31 0)]) (st' := s6) (fun _ h => h) ?_
    rw [hR_11]
    refine w_if_le rfl (fun h2 => ?_) (fun h2 => ?_)
    · replace h2 : R ≤ 0 := (nI_leI (a := R) (b := 0) (by omega) (by omega)).mp h2
      have hR0 : R = 0 := by omega
      exact w_vret rfl rfl (hq R s6 ⟨hlg, hR_11, fun hh => absurd hR0 hh, Or.inr ⟨n 0, obN n c u, R, hb0, ho64, hK_9, (by rw [← hEO]; exact hlg), hR_11, fun hh => absurd hR0 hh⟩, hF_10⟩)
    · replace h2 : ¬ (R ≤ 0) := fun hh => h2 ((nI_leI (a := R) (b := 0) (by omega) (by omega)).mpr hh)
      have hR1 : 1 ≤ R := by omega
      obtain ⟨ρ, hF⟩ := FST_ex (OKR_ex hR1 hb0 hE9 (hallB_iff.mp (hlg.2.1 R hR1 (Nat.le_refl _))))
      have hpl := t_all n (EN n c u) R ρ hb0 hE9 hR1 hR8 hF (n 0) (d + (12 - 2 * n 0))
      rw [show d + (12 - 2 * n 0) + 2 * n 0 + 4 = d + 16 by omega] at hpl
      obtain ⟨z, s5, hc5, hf5, hy5, -⟩ := hpl 0 ρ (obN n c u) s6 (by omega) ⟨⟨fun k hk => absurd hk (Nat.not_lt_zero _), fun k e hk => absurd hk (Nat.not_lt_zero _)⟩, Or.inl ⟨fun k hk => absurd hk (Nat.not_lt_zero _), Nat.zero_le _⟩, hFD_7, hR_11, hO_8, (fun s hs => ⟨ho64 s hs, fun d hd => obN_bit.trans ⟨fun h => Em_iff.mpr ⟨h, fun h9 => absurd h9.1 (Nat.not_lt_zero _)⟩, fun h => (Em_iff.mp h).1⟩⟩), fun k hk => absurd hk (Nat.not_lt_zero _)⟩
      obtain ⟨-, hrow⟩ := hy5 (fun k hk => absurd hk (Nat.not_lt_zero _))
      have hK5 : s5.2 31 3 = lI (KEY (n 0) (obN n c u) 8) := by rw [hf5.2 31 (by decide)]; exact hK_9
      have hR5 : s5.1 31 0 = nI R := by rw [hf5.1 31 (by decide)]; exact hR_11
      refine w_blk 3 (pc' := 40) (ls' := [some (.ref 31), some (.ref 13), some (.ref 21), some (.long (lI (KEY (n 0) (obN n c u) 8))), none]) (sk' := [.int 0, .int 0, .ref 31]) (st' := s6) (fun _ h => h) ?_
      refine w_callV (As := [.ref 31, .int 0, .int 0]) (rest := []) rfl rfl rfl (Nat.le_of_ble_eq_true rfl) (Nat.le_of_ble_eq_true rfl) (by first | exact Or.inl ⟨rfl, rfl⟩ | exact Or.inr ⟨rfl, rfl⟩) hc5 ?_
      refine w_blk 1 (pc' := 44) (ls' := [some (.ref 31), some (.ref 13), some (.ref 21), some (.long (lI (KEY (n 0) (obN n c u) 8))), none]) (sk' := []) (st' := s5) (fun _ h => h) ?_
      exact w_vret rfl rfl (hq R s5 ⟨hlg, hR5, fun _ => ⟨ρ, hF, hrow⟩, Or.inr ⟨n 0, obN n c u, R, hb0, ho64, hK5, (by rw [← hEO]; exact hlg), hR5, fun _ => ⟨ρ, by rw [← hEO]; exact hF, hrow⟩⟩, Fr.trans hF_10 (Fr.mono hf5 (by decide))⟩)
  · have heq : lI (KEY (n 0) (obN n c u) 8) = kn := (lg_cmp_eq _ _).mp (Decidable.not_not.mp h1)
    have h63 : KEY (n 0) (obN n c u) 8 < 2 ^ 63 := Nat.lt_of_lt_of_le hky (by decide)
    have hk3 : st.2 31 3 = kn := by rw [← h1L]; exact hkn
    rcases id hI with h9 | ⟨nd, ob, R, g1, g2, g3, g4, g5, g6⟩
    · exfalso
      rw [h9] at hk3
      rw [← hk3] at heq
      have h8 := congrArg Int64.toInt heq
      rw [lI_toInt h63] at h8
      have h7 : (-1 : Int64).toInt = -1 := rfl
      omega
    · have g7 := KEY_bd g1 g2 8 (Nat.le_refl _)
      have h62 : KEY nd ob 8 < 2 ^ 63 := Nat.lt_of_lt_of_le g7 (by decide)
      rw [g3] at hk3
      rw [← hk3] at heq
      have h8 := congrArg Int64.toInt heq
      rw [lI_toInt h63, lI_toInt h62] at h8
      obtain ⟨e1, e2⟩ := KEY_inj 8 (Nat.le_refl _) ho64 g2 (Int.ofNat.inj h8)
      have e3 : EN n c u = EOb ob := hEO.trans (EOb_cong e2)
      subst e1
      have hIs : IFol s1 := by
        unfold IFol
        rw [h1L, h10, h132]
        exact hI
      exact w_vret rfl rfl (hq R s1 ⟨by rw [e3]; exact g4, by rw [h10]; exact g5, fun hh => by obtain ⟨ρ, k1, k2⟩ := g6 hh; exact ⟨ρ, by rw [e3]; exact k1, fun k hk => by rw [h132]; exact k2 k hk⟩, hIs, hf1⟩)
