/-! THE PLAIN CALLS of the class SpadeRings, 2: may, throws, rounds, images, marks, counts, holes, told ones, the text typed -/
def sp_may (n : Nat → Nat) (c : Nat → Nat → Nat) (u : Nat → Nat) (x y : Int32) : Int32 := if ok0 n x then (if ok1 n y then pI ((c 4 y.toNatClampNeg = 0 ∨ c 4 y.toNatClampNeg = c 2 x.toNatClampNeg + 1) ∧ (u 5).testBit y.toNatClampNeg = false ∧ (u (6 + x.toNatClampNeg)).testBit y.toNatClampNeg = false) else -1) else -1
theorem nI_eqI {a b : Nat} (ha : a < 2 ^ 31) (hb : b < 2 ^ 31) : nI a = nI b ↔ a = b := nI_eq ha hb
theorem tb_false {a k : Nat} : ¬ a.testBit k = true ↔ a.testBit k = false := by
  cases a.testBit k <;> simp
theorem c_suitsK_5 (d : Nat) (n : Nat → Nat) (c : Nat → Nat → Nat) (k s : Nat) (st : mSt) (hX : X5 st n c) (hB : CB n c) (hk : k < n 0) (hs : s < n 1) : mMC mT (d + 2) 26 [.ref 5, .int (nI k), .int (nI s)] st (some (.int (pI (c 4 s = 0 ∨ c 4 s = c 2 k + 1)))) st := by
  obtain ⟨hb0, hb1, hb2, hbd, hbs, hby⟩ := hB
  obtain ⟨hn0, hn1, hn2, hxd, hxs, hxy⟩ := hX
  have h := c_suits_5 d (nI k) (nI s) st
  rw [celV_at (show s < 8 by omega) (by decide), celV_at (show k < 6 by omega) (by decide), (hxs s hs).2, (hxd k hk).2.2] at h
  have h1 := (hbs s hs).2.2
  have h2 := (hbd k hk).2.2.2.2
  have e : (nI (c 4 s) = 0 ∨ nI (c 4 s) = nI (c 2 k) + 1) ↔ (c 4 s = 0 ∨ c 4 s = c 2 k + 1) := by
    rw [← nI_0, nI_1, nI_eq (by omega) (by omega), nI_eq (by omega) (by omega)]
  rw [pI_cong e] at h
  exact h
theorem c_productK_5 (d : Nat) (n : Nat → Nat) (c : Nat → Nat → Nat) (k s : Nat) (st : mSt) (hX : X5 st n c) (hB : CB n c) (hk : k < n 0) (hs : s < n 1) : mMC mT (d + 2) 27 [.ref 5, .int (nI k), .int (nI s)] st (some (.int (nI (c 0 k * c 3 s)))) st := by
  obtain ⟨hb0, hb1, hb2, hbd, hbs, hby⟩ := hB
  obtain ⟨hn0, hn1, hn2, hxd, hxs, hxy⟩ := hX
  have h := c_product_5 d (nI k) (nI s) st
  rw [celV_at (show s < 8 by omega) (by decide), celV_at (show k < 6 by omega) (by decide), (hxs s hs).1, (hxd k hk).1, pk_mul] at h
  exact h
theorem c_suitsK_13 (d : Nat) (n : Nat → Nat) (c : Nat → Nat → Nat) (k s : Nat) (st : mSt) (hX : X13 st n c) (hB : CB n c) (hk : k < n 0) (hs : s < n 1) : mMC mT (d + 2) 26 [.ref 13, .int (nI k), .int (nI s)] st (some (.int (pI (c 4 s = 0 ∨ c 4 s = c 2 k + 1)))) st := by
  obtain ⟨hb0, hb1, hb2, hbd, hbs, hby⟩ := hB
  obtain ⟨hn0, hn1, hn2, hxd, hxs, hxy⟩ := hX
  have h := c_suits_13 d (nI k) (nI s) st
  rw [celV_at (show s < 8 by omega) (by decide), celV_at (show k < 6 by omega) (by decide), (hxs s hs).2, (hxd k hk).2.2] at h
  have h1 := (hbs s hs).2.2
  have h2 := (hbd k hk).2.2.2.2
  have e : (nI (c 4 s) = 0 ∨ nI (c 4 s) = nI (c 2 k) + 1) ↔ (c 4 s = 0 ∨ c 4 s = c 2 k + 1) := by
    rw [← nI_0, nI_1, nI_eq (by omega) (by omega), nI_eq (by omega) (by omega)]
  rw [pI_cong e] at h
  exact h
theorem c_productK_13 (d : Nat) (n : Nat → Nat) (c : Nat → Nat → Nat) (k s : Nat) (st : mSt) (hX : X13 st n c) (hB : CB n c) (hk : k < n 0) (hs : s < n 1) : mMC mT (d + 2) 27 [.ref 13, .int (nI k), .int (nI s)] st (some (.int (nI (c 0 k * c 3 s)))) st := by
  obtain ⟨hb0, hb1, hb2, hbd, hbs, hby⟩ := hB
  obtain ⟨hn0, hn1, hn2, hxd, hxs, hxy⟩ := hX
  have h := c_product_13 d (nI k) (nI s) st
  rw [celV_at (show s < 8 by omega) (by decide), celV_at (show k < 6 by omega) (by decide), (hxs s hs).1, (hxd k hk).1, pk_mul] at h
  exact h
set_option maxRecDepth 20000 in
/-- allows(crew, k, s) -/
theorem c_allows_5 (d : Nat) (n : Nat → Nat) (c : Nat → Nat → Nat) (v : Nat → Int32) (u : Nat → Nat) (yd : Nat) (k s : Nat) (st : mSt) (hX : X5 st n c) (hB : CB n c) (hN : N21 st v u yd) (hU : ∀ j, 3 ≤ j → j < 12 → u j < 256) (hk : k < n 0) (hs : s < n 1) : mMC mT (d + 3) 47 [.ref 21, .ref 5, .int (nI k), .int (nI s)] st (some (.int (pI ((c 4 s = 0 ∨ c 4 s = c 2 k + 1) ∧ (u 5).testBit s = false ∧ (u (6 + k)).testBit s = false)))) st := by
  refine mI_X5_allows (d := d + 2) (Nat.le_of_ble_eq_true rfl) (fun Q hq => ?_)
  show mW (mMC mT (d + 2)) (0, fun _ => 0) (mAtL P_X5_allows) (some .boolean) Q 0 [some (.ref 21), some (.ref 5), some (.int (nI k)), some (.int (nI s))] [] st
  obtain ⟨hn0, hn1, hn2, hxd, hxs, hxy⟩ := id hX
  obtain ⟨hb0, hb1, hb2, hbd, hbs, hby⟩ := id hB
  obtain ⟨hv0, hv1, hv2, hv3, hu3, hu4, hu5, hut, huo⟩ := id hN
  refine w_blk 3 (pc' := 3) (ls' := [some (.ref 21), some (.ref 5), some (.int (nI k)), some (.int (nI s))]) (sk' := [.int (nI s), .int (nI k), .ref 5]) (st' := st) (fun _ h => h) ?_
  refine w_callV (As := [.ref 5, .int (nI k), .int (nI s)]) (rest := []) rfl rfl rfl (Nat.le_of_ble_eq_true rfl) (Nat.le_of_ble_eq_true rfl) (by first | exact Or.inl ⟨rfl, rfl⟩ | exact Or.inr ⟨rfl, rfl⟩) (c_suitsK_5 (d + 0) n c k s st hX hB (by omega) (by omega)) ?_
  refine w_if_eq rfl (fun h1 => ?_) (fun h1 => ?_)
  · replace h1 := pI_eq0.mp h1
    refine w_blk 1 (pc' := 40) (ls' := [some (.ref 21), some (.ref 5), some (.int (nI k)), some (.int (nI s))]) (sk' := [.int 0]) (st' := st) (fun _ h => h) ?_
    rw [pI_f (fun hh => by first | exact absurd hh.1 h1 | exact absurd h2 (tb_false.mpr hh.2.1) | exact absurd h3 (tb_false.mpr hh.2.2))] at hq
    exact w_iret rfl rfl rfl hq
  · replace h1 := pI_ne.mp h1
    refine w_blk 3 (pc' := 14) (ls' := [some (.ref 21), some (.ref 5), some (.int (nI k)), some (.int (nI s))]) (sk' := [.int (nI s), .int (st.1 21 6)]) (st' := st) (fun _ h => h) ?_
    rw [hu5]
    refine w_callS (As := [.int (nI (u 5)), .int (nI s)]) (rest := []) rfl rfl rfl (Nat.le_of_ble_eq_true rfl) (Nat.le_of_ble_eq_true rfl) (c_hasBit (d + 1) (nI (u 5)) (nI s) st) ?_
    rw [pI_cong (bitP_nI (by omega) (by have := hU 5 (by omega) (by omega); omega))]
    refine w_if_ne rfl (fun h2 => ?_) (fun h2 => ?_)
    · replace h2 := pI_ne.mp h2
      refine w_blk 1 (pc' := 40) (ls' := [some (.ref 21), some (.ref 5), some (.int (nI k)), some (.int (nI s))]) (sk' := [.int 0]) (st' := st) (fun _ h => h) ?_
      rw [pI_f (fun hh => by first | exact absurd hh.1 h1 | exact absurd h2 (tb_false.mpr hh.2.1) | exact absurd h3 (tb_false.mpr hh.2.2))] at hq
      exact w_iret rfl rfl rfl hq
    · replace h2 := pI_eq0.mp (Decidable.not_not.mp h2)
      refine w_blk 3 (pc' := 25) (ls' := [some (.ref 21), some (.ref 5), some (.int (nI k)), some (.int (nI s))]) (sk' := [.int (nI k), .ref 22]) (st' := st) (fun _ h => h) ?_
      refine w_callS (As := [.ref 22, .int (nI k)]) (rest := []) rfl rfl rfl (Nat.le_of_ble_eq_true rfl) (Nat.le_of_ble_eq_true rfl) (c_cellK (d + 1) 22 6 k st (by omega) (by decide) rfl) ?_
      rw [hut k (by omega)]
      refine w_blk 1 (pc' := 29) (ls' := [some (.ref 21), some (.ref 5), some (.int (nI k)), some (.int (nI s))]) (sk' := [.int (nI s), .int (nI (u (6 + k)))]) (st' := st) (fun _ h => h) ?_
      refine w_callS (As := [.int (nI (u (6 + k))), .int (nI s)]) (rest := []) rfl rfl rfl (Nat.le_of_ble_eq_true rfl) (Nat.le_of_ble_eq_true rfl) (c_hasBit (d + 1) (nI (u (6 + k))) (nI s) st) ?_
      rw [pI_cong (bitP_nI (by omega) (by have := hU (6 + k) (by omega) (by omega); omega))]
      refine w_if_ne rfl (fun h3 => ?_) (fun h3 => ?_)
      · replace h3 := pI_ne.mp h3
        refine w_blk 1 (pc' := 40) (ls' := [some (.ref 21), some (.ref 5), some (.int (nI k)), some (.int (nI s))]) (sk' := [.int 0]) (st' := st) (fun _ h => h) ?_
        rw [pI_f (fun hh => by first | exact absurd hh.1 h1 | exact absurd h2 (tb_false.mpr hh.2.1) | exact absurd h3 (tb_false.mpr hh.2.2))] at hq
        exact w_iret rfl rfl rfl hq
      · replace h3 := pI_eq0.mp (Decidable.not_not.mp h3)
        refine w_blk 2 (pc' := 40) (ls' := [some (.ref 21), some (.ref 5), some (.int (nI k)), some (.int (nI s))]) (sk' := [.int 1]) (st' := st) (fun _ h => h) ?_
        rw [pI_t ⟨h1, tb_false.mp h2, tb_false.mp h3⟩] at hq
        exact w_iret rfl rfl rfl hq
set_option maxRecDepth 20000 in
/-- allows(crew, k, s) -/
theorem c_allows_13 (d : Nat) (n : Nat → Nat) (c : Nat → Nat → Nat) (v : Nat → Int32) (u : Nat → Nat) (yd : Nat) (k s : Nat) (st : mSt) (hX : X13 st n c) (hB : CB n c) (hN : N21 st v u yd) (hU : ∀ j, 3 ≤ j → j < 12 → u j < 256) (hk : k < n 0) (hs : s < n 1) : mMC mT (d + 3) 47 [.ref 21, .ref 13, .int (nI k), .int (nI s)] st (some (.int (pI ((c 4 s = 0 ∨ c 4 s = c 2 k + 1) ∧ (u 5).testBit s = false ∧ (u (6 + k)).testBit s = false)))) st := by
  refine mI_X5_allows (d := d + 2) (Nat.le_of_ble_eq_true rfl) (fun Q hq => ?_)
  show mW (mMC mT (d + 2)) (0, fun _ => 0) (mAtL P_X5_allows) (some .boolean) Q 0 [some (.ref 21), some (.ref 13), some (.int (nI k)), some (.int (nI s))] [] st
  obtain ⟨hn0, hn1, hn2, hxd, hxs, hxy⟩ := id hX
  obtain ⟨hb0, hb1, hb2, hbd, hbs, hby⟩ := id hB
  obtain ⟨hv0, hv1, hv2, hv3, hu3, hu4, hu5, hut, huo⟩ := id hN
  refine w_blk 3 (pc' := 3) (ls' := [some (.ref 21), some (.ref 13), some (.int (nI k)), some (.int (nI s))]) (sk' := [.int (nI s), .int (nI k), .ref 13]) (st' := st) (fun _ h => h) ?_
  refine w_callV (As := [.ref 13, .int (nI k), .int (nI s)]) (rest := []) rfl rfl rfl (Nat.le_of_ble_eq_true rfl) (Nat.le_of_ble_eq_true rfl) (by first | exact Or.inl ⟨rfl, rfl⟩ | exact Or.inr ⟨rfl, rfl⟩) (c_suitsK_13 (d + 0) n c k s st hX hB (by omega) (by omega)) ?_
  refine w_if_eq rfl (fun h1 => ?_) (fun h1 => ?_)
  · replace h1 := pI_eq0.mp h1
    refine w_blk 1 (pc' := 40) (ls' := [some (.ref 21), some (.ref 13), some (.int (nI k)), some (.int (nI s))]) (sk' := [.int 0]) (st' := st) (fun _ h => h) ?_
    rw [pI_f (fun hh => by first | exact absurd hh.1 h1 | exact absurd h2 (tb_false.mpr hh.2.1) | exact absurd h3 (tb_false.mpr hh.2.2))] at hq
    exact w_iret rfl rfl rfl hq
  · replace h1 := pI_ne.mp h1
    refine w_blk 3 (pc' := 14) (ls' := [some (.ref 21), some (.ref 13), some (.int (nI k)), some (.int (nI s))]) (sk' := [.int (nI s), .int (st.1 21 6)]) (st' := st) (fun _ h => h) ?_
    rw [hu5]
    refine w_callS (As := [.int (nI (u 5)), .int (nI s)]) (rest := []) rfl rfl rfl (Nat.le_of_ble_eq_true rfl) (Nat.le_of_ble_eq_true rfl) (c_hasBit (d + 1) (nI (u 5)) (nI s) st) ?_
    rw [pI_cong (bitP_nI (by omega) (by have := hU 5 (by omega) (by omega); omega))]
    refine w_if_ne rfl (fun h2 => ?_) (fun h2 => ?_)
    · replace h2 := pI_ne.mp h2
      refine w_blk 1 (pc' := 40) (ls' := [some (.ref 21), some (.ref 13), some (.int (nI k)), some (.int (nI s))]) (sk' := [.int 0]) (st' := st) (fun _ h => h) ?_
      rw [pI_f (fun hh => by first | exact absurd hh.1 h1 | exact absurd h2 (tb_false.mpr hh.2.1) | exact absurd h3 (tb_false.mpr hh.2.2))] at hq
      exact w_iret rfl rfl rfl hq
    · replace h2 := pI_eq0.mp (Decidable.not_not.mp h2)
      refine w_blk 3 (pc' := 25) (ls' := [some (.ref 21), some (.ref 13), some (.int (nI k)), some (.int (nI s))]) (sk' := [.int (nI k), .ref 22]) (st' := st) (fun _ h => h) ?_
      refine w_callS (As := [.ref 22, .int (nI k)]) (rest := []) rfl rfl rfl (Nat.le_of_ble_eq_true rfl) (Nat.le_of_ble_eq_true rfl) (c_cellK (d + 1) 22 6 k st (by omega) (by decide) rfl) ?_
      rw [hut k (by omega)]
      refine w_blk 1 (pc' := 29) (ls' := [some (.ref 21), some (.ref 13), some (.int (nI k)), some (.int (nI s))]) (sk' := [.int (nI s), .int (nI (u (6 + k)))]) (st' := st) (fun _ h => h) ?_
      refine w_callS (As := [.int (nI (u (6 + k))), .int (nI s)]) (rest := []) rfl rfl rfl (Nat.le_of_ble_eq_true rfl) (Nat.le_of_ble_eq_true rfl) (c_hasBit (d + 1) (nI (u (6 + k))) (nI s) st) ?_
      rw [pI_cong (bitP_nI (by omega) (by have := hU (6 + k) (by omega) (by omega); omega))]
      refine w_if_ne rfl (fun h3 => ?_) (fun h3 => ?_)
      · replace h3 := pI_ne.mp h3
        refine w_blk 1 (pc' := 40) (ls' := [some (.ref 21), some (.ref 13), some (.int (nI k)), some (.int (nI s))]) (sk' := [.int 0]) (st' := st) (fun _ h => h) ?_
        rw [pI_f (fun hh => by first | exact absurd hh.1 h1 | exact absurd h2 (tb_false.mpr hh.2.1) | exact absurd h3 (tb_false.mpr hh.2.2))] at hq
        exact w_iret rfl rfl rfl hq
      · replace h3 := pI_eq0.mp (Decidable.not_not.mp h3)
        refine w_blk 2 (pc' := 40) (ls' := [some (.ref 21), some (.ref 13), some (.int (nI k)), some (.int (nI s))]) (sk' := [.int 1]) (st' := st) (fun _ h => h) ?_
        rw [pI_t ⟨h1, tb_false.mp h2, tb_false.mp h3⟩] at hq
        exact w_iret rfl rfl rfl hq
set_option maxRecDepth 20000 in
/-- canThrow(crew, k, s) -/
theorem c_canThrow_5 (d : Nat) (n : Nat → Nat) (c : Nat → Nat → Nat) (v : Nat → Int32) (u : Nat → Nat) (yd : Nat) (k s : Nat) (st : mSt) (hX : X5 st n c) (hB : CB n c) (hN : N21 st v u yd) (hU : ∀ j, 3 ≤ j → j < 12 → u j < 256) (hk : k < n 0) (hs : s < n 1) : mMC mT (d + 4) 48 [.ref 21, .ref 5, .int (nI k), .int (nI s)] st (some (.int (pI (((c 4 s = 0 ∨ c 4 s = c 2 k + 1) ∧ (u 5).testBit s = false ∧ (u (6 + k)).testBit s = false) ∧ (u 3).testBit k = false ∧ (u 4).testBit s = false)))) st := by
  refine mI_X5_canThrow (d := d + 3) (Nat.le_of_ble_eq_true rfl) (fun Q hq => ?_)
  show mW (mMC mT (d + 3)) (0, fun _ => 0) (mAtL P_X5_canThrow) (some .boolean) Q 0 [some (.ref 21), some (.ref 5), some (.int (nI k)), some (.int (nI s))] [] st
  obtain ⟨hn0, hn1, hn2, hxd, hxs, hxy⟩ := id hX
  obtain ⟨hb0, hb1, hb2, hbd, hbs, hby⟩ := id hB
  obtain ⟨hv0, hv1, hv2, hv3, hu3, hu4, hu5, hut, huo⟩ := id hN
  refine w_blk 4 (pc' := 4) (ls' := [some (.ref 21), some (.ref 5), some (.int (nI k)), some (.int (nI s))]) (sk' := [.int (nI s), .int (nI k), .ref 5, .ref 21]) (st' := st) (fun _ h => h) ?_
  refine w_callV (As := [.ref 21, .ref 5, .int (nI k), .int (nI s)]) (rest := []) rfl rfl rfl (Nat.le_of_ble_eq_true rfl) (Nat.le_of_ble_eq_true rfl) (by first | exact Or.inl ⟨rfl, rfl⟩ | exact Or.inr ⟨rfl, rfl⟩) (c_allows_5 (d + 0) n c v u yd k s st hX hB hN hU (by omega) (by omega)) ?_
  refine w_if_eq rfl (fun h1 => ?_) (fun h1 => ?_)
  · replace h1 := pI_eq0.mp h1
    refine w_blk 1 (pc' := 37) (ls' := [some (.ref 21), some (.ref 5), some (.int (nI k)), some (.int (nI s))]) (sk' := [.int 0]) (st' := st) (fun _ h => h) ?_
    rw [pI_f (fun hh => by first | exact absurd hh.1 h1 | exact absurd h2 (tb_false.mpr hh.2.1) | exact absurd h3 (tb_false.mpr hh.2.2))] at hq
    exact w_iret rfl rfl rfl hq
  · replace h1 := pI_ne.mp h1
    refine w_blk 3 (pc' := 15) (ls' := [some (.ref 21), some (.ref 5), some (.int (nI k)), some (.int (nI s))]) (sk' := [.int (nI k), .int (st.1 21 4)]) (st' := st) (fun _ h => h) ?_
    rw [hu3]
    refine w_callS (As := [.int (nI (u 3)), .int (nI k)]) (rest := []) rfl rfl rfl (Nat.le_of_ble_eq_true rfl) (Nat.le_of_ble_eq_true rfl) (c_hasBit (d + 2) (nI (u 3)) (nI k) st) ?_
    rw [pI_cong (bitP_nI (by omega) (by have := hU 3 (by omega) (by omega); omega))]
    refine w_if_ne rfl (fun h2 => ?_) (fun h2 => ?_)
    · replace h2 := pI_ne.mp h2
      refine w_blk 1 (pc' := 37) (ls' := [some (.ref 21), some (.ref 5), some (.int (nI k)), some (.int (nI s))]) (sk' := [.int 0]) (st' := st) (fun _ h => h) ?_
      rw [pI_f (fun hh => by first | exact absurd hh.1 h1 | exact absurd h2 (tb_false.mpr hh.2.1) | exact absurd h3 (tb_false.mpr hh.2.2))] at hq
      exact w_iret rfl rfl rfl hq
    · replace h2 := pI_eq0.mp (Decidable.not_not.mp h2)
      refine w_blk 3 (pc' := 26) (ls' := [some (.ref 21), some (.ref 5), some (.int (nI k)), some (.int (nI s))]) (sk' := [.int (nI s), .int (st.1 21 5)]) (st' := st) (fun _ h => h) ?_
      rw [hu4]
      refine w_callS (As := [.int (nI (u 4)), .int (nI s)]) (rest := []) rfl rfl rfl (Nat.le_of_ble_eq_true rfl) (Nat.le_of_ble_eq_true rfl) (c_hasBit (d + 2) (nI (u 4)) (nI s) st) ?_
      rw [pI_cong (bitP_nI (by omega) (by have := hU 4 (by omega) (by omega); omega))]
      refine w_if_ne rfl (fun h3 => ?_) (fun h3 => ?_)
      · replace h3 := pI_ne.mp h3
        refine w_blk 1 (pc' := 37) (ls' := [some (.ref 21), some (.ref 5), some (.int (nI k)), some (.int (nI s))]) (sk' := [.int 0]) (st' := st) (fun _ h => h) ?_
        rw [pI_f (fun hh => by first | exact absurd hh.1 h1 | exact absurd h2 (tb_false.mpr hh.2.1) | exact absurd h3 (tb_false.mpr hh.2.2))] at hq
        exact w_iret rfl rfl rfl hq
      · replace h3 := pI_eq0.mp (Decidable.not_not.mp h3)
        refine w_blk 2 (pc' := 37) (ls' := [some (.ref 21), some (.ref 5), some (.int (nI k)), some (.int (nI s))]) (sk' := [.int 1]) (st' := st) (fun _ h => h) ?_
        rw [pI_t ⟨h1, tb_false.mp h2, tb_false.mp h3⟩] at hq
        exact w_iret rfl rfl rfl hq
set_option maxRecDepth 20000 in
/-- canThrow(crew, k, s) -/
theorem c_canThrow_13 (d : Nat) (n : Nat → Nat) (c : Nat → Nat → Nat) (v : Nat → Int32) (u : Nat → Nat) (yd : Nat) (k s : Nat) (st : mSt) (hX : X13 st n c) (hB : CB n c) (hN : N21 st v u yd) (hU : ∀ j, 3 ≤ j → j < 12 → u j < 256) (hk : k < n 0) (hs : s < n 1) : mMC mT (d + 4) 48 [.ref 21, .ref 13, .int (nI k), .int (nI s)] st (some (.int (pI (((c 4 s = 0 ∨ c 4 s = c 2 k + 1) ∧ (u 5).testBit s = false ∧ (u (6 + k)).testBit s = false) ∧ (u 3).testBit k = false ∧ (u 4).testBit s = false)))) st := by
  refine mI_X5_canThrow (d := d + 3) (Nat.le_of_ble_eq_true rfl) (fun Q hq => ?_)
  show mW (mMC mT (d + 3)) (0, fun _ => 0) (mAtL P_X5_canThrow) (some .boolean) Q 0 [some (.ref 21), some (.ref 13), some (.int (nI k)), some (.int (nI s))] [] st
  obtain ⟨hn0, hn1, hn2, hxd, hxs, hxy⟩ := id hX
  obtain ⟨hb0, hb1, hb2, hbd, hbs, hby⟩ := id hB
  obtain ⟨hv0, hv1, hv2, hv3, hu3, hu4, hu5, hut, huo⟩ := id hN
  refine w_blk 4 (pc' := 4) (ls' := [some (.ref 21), some (.ref 13), some (.int (nI k)), some (.int (nI s))]) (sk' := [.int (nI s), .int (nI k), .ref 13, .ref 21]) (st' := st) (fun _ h => h) ?_
  refine w_callV (As := [.ref 21, .ref 13, .int (nI k), .int (nI s)]) (rest := []) rfl rfl rfl (Nat.le_of_ble_eq_true rfl) (Nat.le_of_ble_eq_true rfl) (by first | exact Or.inl ⟨rfl, rfl⟩ | exact Or.inr ⟨rfl, rfl⟩) (c_allows_13 (d + 0) n c v u yd k s st hX hB hN hU (by omega) (by omega)) ?_
  refine w_if_eq rfl (fun h1 => ?_) (fun h1 => ?_)
  · replace h1 := pI_eq0.mp h1
    refine w_blk 1 (pc' := 37) (ls' := [some (.ref 21), some (.ref 13), some (.int (nI k)), some (.int (nI s))]) (sk' := [.int 0]) (st' := st) (fun _ h => h) ?_
    rw [pI_f (fun hh => by first | exact absurd hh.1 h1 | exact absurd h2 (tb_false.mpr hh.2.1) | exact absurd h3 (tb_false.mpr hh.2.2))] at hq
    exact w_iret rfl rfl rfl hq
  · replace h1 := pI_ne.mp h1
    refine w_blk 3 (pc' := 15) (ls' := [some (.ref 21), some (.ref 13), some (.int (nI k)), some (.int (nI s))]) (sk' := [.int (nI k), .int (st.1 21 4)]) (st' := st) (fun _ h => h) ?_
    rw [hu3]
    refine w_callS (As := [.int (nI (u 3)), .int (nI k)]) (rest := []) rfl rfl rfl (Nat.le_of_ble_eq_true rfl) (Nat.le_of_ble_eq_true rfl) (c_hasBit (d + 2) (nI (u 3)) (nI k) st) ?_
    rw [pI_cong (bitP_nI (by omega) (by have := hU 3 (by omega) (by omega); omega))]
    refine w_if_ne rfl (fun h2 => ?_) (fun h2 => ?_)
    · replace h2 := pI_ne.mp h2
      refine w_blk 1 (pc' := 37) (ls' := [some (.ref 21), some (.ref 13), some (.int (nI k)), some (.int (nI s))]) (sk' := [.int 0]) (st' := st) (fun _ h => h) ?_
      rw [pI_f (fun hh => by first | exact absurd hh.1 h1 | exact absurd h2 (tb_false.mpr hh.2.1) | exact absurd h3 (tb_false.mpr hh.2.2))] at hq
      exact w_iret rfl rfl rfl hq
    · replace h2 := pI_eq0.mp (Decidable.not_not.mp h2)
      refine w_blk 3 (pc' := 26) (ls' := [some (.ref 21), some (.ref 13), some (.int (nI k)), some (.int (nI s))]) (sk' := [.int (nI s), .int (st.1 21 5)]) (st' := st) (fun _ h => h) ?_
      rw [hu4]
      refine w_callS (As := [.int (nI (u 4)), .int (nI s)]) (rest := []) rfl rfl rfl (Nat.le_of_ble_eq_true rfl) (Nat.le_of_ble_eq_true rfl) (c_hasBit (d + 2) (nI (u 4)) (nI s) st) ?_
      rw [pI_cong (bitP_nI (by omega) (by have := hU 4 (by omega) (by omega); omega))]
      refine w_if_ne rfl (fun h3 => ?_) (fun h3 => ?_)
      · replace h3 := pI_ne.mp h3
        refine w_blk 1 (pc' := 37) (ls' := [some (.ref 21), some (.ref 13), some (.int (nI k)), some (.int (nI s))]) (sk' := [.int 0]) (st' := st) (fun _ h => h) ?_
        rw [pI_f (fun hh => by first | exact absurd hh.1 h1 | exact absurd h2 (tb_false.mpr hh.2.1) | exact absurd h3 (tb_false.mpr hh.2.2))] at hq
        exact w_iret rfl rfl rfl hq
      · replace h3 := pI_eq0.mp (Decidable.not_not.mp h3)
        refine w_blk 2 (pc' := 37) (ls' := [some (.ref 21), some (.ref 13), some (.int (nI k)), some (.int (nI s))]) (sk' := [.int 1]) (st' := st) (fun _ h => h) ?_
        rw [pI_t ⟨h1, tb_false.mp h2, tb_false.mp h3⟩] at hq
        exact w_iret rfl rfl rfl hq
set_option maxRecDepth 20000 in
/-- may -/
theorem x_may_5 (d : Nat) (n : Nat → Nat) (c : Nat → Nat → Nat) (v : Nat → Int32) (u : Nat → Nat) (yd : Nat) (x y : Int32) (st : mSt) (hcw : st.1 0 1 = nI 5) (hX : X5 st n c) (hB : CB n c) (hN : N21 st v u yd) (hU : ∀ j, 3 ≤ j → j < 12 → u j < 256) : mMC mT (d + 4) 91 [.ref 0, .int x, .int y] st (some (.int (sp_may n c u x y))) st := by
  refine mI_X9_may (d := d + 3) (Nat.le_of_ble_eq_true rfl) (fun Q hq => ?_)
  show mW (mMC mT (d + 3)) (0, fun _ => 0) (mAtL P_X9_may) (some .int) Q 0 [some (.ref 0), some (.int x), some (.int y)] [] st
  have hcr : (st.1 0 1).toNatClampNeg = 5 := by rw [hcw]; rfl
  obtain ⟨hn0, hn1, hn2, hxd, hxs, hxy⟩ := id hX
  obtain ⟨hb0, hb1, hb2, hbd, hbs, hby⟩ := id hB
  refine w_blk 1 (pc' := 1) (ls' := [some (.ref 0), some (.int x), some (.int y)]) (sk' := [.ref 0]) (st' := st) (fun _ h => h) ?_
  refine w_blk 1 (pc' := 4) (ls' := [some (.ref 0), some (.int x), some (.int y)]) (sk' := [.ref (Int32.toNatClampNeg (st.1 0 1))]) (st' := st) (fun _ h => h) ?_
  rw [hcr]
  refine w_blk 1 (pc' := 5) (ls' := [some (.ref 0), some (.int x), some (.int y)]) (sk' := [.int x, .ref 5]) (st' := st) (fun _ h => h) ?_
  refine w_callV (As := [.ref 5, .int x]) (rest := []) rfl rfl rfl (Nat.le_of_ble_eq_true rfl) (Nat.le_of_ble_eq_true rfl) (by first | exact Or.inl ⟨rfl, rfl⟩ | exact Or.inr ⟨rfl, rfl⟩) (c_hasDigger_5 (d + 2) x st) ?_
  rw [hn0]
  refine w_if_eq rfl (fun h1 => ?_) (fun h1 => ?_)
  · replace h1 := pI_eq0.mp h1
    refine w_blk 1 (pc' := 23) (ls' := [some (.ref 0), some (.int x), some (.int y)]) (sk' := [.int (-1)]) (st' := st) (fun _ h => h) ?_
    rw [show sp_may n c u x y = (-1) from if_neg h1] at hq
    exact w_iret rfl rfl rfl hq
  · replace h1 := pI_ne.mp h1
    refine w_blk 1 (pc' := 12) (ls' := [some (.ref 0), some (.int x), some (.int y)]) (sk' := [.ref 0]) (st' := st) (fun _ h => h) ?_
    refine w_blk 1 (pc' := 15) (ls' := [some (.ref 0), some (.int x), some (.int y)]) (sk' := [.ref (Int32.toNatClampNeg (st.1 0 1))]) (st' := st) (fun _ h => h) ?_
    rw [hcr]
    refine w_blk 1 (pc' := 16) (ls' := [some (.ref 0), some (.int x), some (.int y)]) (sk' := [.int y, .ref 5]) (st' := st) (fun _ h => h) ?_
    obtain ⟨k, hk, rfl⟩ := nI_in2 (by omega) h1
    refine w_callV (As := [.ref 5, .int y]) (rest := []) rfl rfl rfl (Nat.le_of_ble_eq_true rfl) (Nat.le_of_ble_eq_true rfl) (by first | exact Or.inl ⟨rfl, rfl⟩ | exact Or.inr ⟨rfl, rfl⟩) (c_hasSpade_5 (d + 2) y st) ?_
    rw [hn1]
    refine w_if_ne rfl (fun h2 => ?_) (fun h2 => ?_)
    · replace h2 := pI_ne.mp h2
      refine w_blk 3 (pc' := 29) (ls' := [some (.ref 0), some (.int (nI k)), some (.int y)]) (sk' := [.ref 0, .ref 21]) (st' := st) (fun _ h => h) ?_
      refine w_blk 1 (pc' := 32) (ls' := [some (.ref 0), some (.int (nI k)), some (.int y)]) (sk' := [.ref (Int32.toNatClampNeg (st.1 0 1)), .ref 21]) (st' := st) (fun _ h => h) ?_
      rw [hcr]
      refine w_blk 2 (pc' := 34) (ls' := [some (.ref 0), some (.int (nI k)), some (.int y)]) (sk' := [.int y, .int (nI k), .ref 5, .ref 21]) (st' := st) (fun _ h => h) ?_
      obtain ⟨s, hs, rfl⟩ := nI_in2 (by omega) h2
      refine w_callV (As := [.ref 21, .ref 5, .int (nI k), .int (nI s)]) (rest := []) rfl rfl rfl (Nat.le_of_ble_eq_true rfl) (Nat.le_of_ble_eq_true rfl) (by first | exact Or.inl ⟨rfl, rfl⟩ | exact Or.inr ⟨rfl, rfl⟩) (c_allows_5 (d + 0) n c v u yd k s st hX hB hN hU (by omega) (by omega)) ?_
      refine w_callS (As := [.int (pI ((c 4 s = 0 ∨ c 4 s = c 2 k + 1) ∧ (u 5).testBit s = false ∧ (u (6 + k)).testBit s = false))]) (rest := []) rfl rfl rfl (Nat.le_of_ble_eq_true rfl) (Nat.le_of_ble_eq_true rfl) (c_asNumberP (d + 2) _ st) ?_
      rw [show sp_may n c u (nI k) (nI s) = (pI ((c 4 s = 0 ∨ c 4 s = c 2 k + 1) ∧ (u 5).testBit s = false ∧ (u (6 + k)).testBit s = false)) from by unfold sp_may; rw [if_pos (nI_in3 (by omega) hk), if_pos (nI_in3 (by omega) hs), nI_clamp (show k < 2 ^ 31 by omega), nI_clamp (show s < 2 ^ 31 by omega)]] at hq
      exact w_iret rfl rfl rfl hq
    · replace h2 := pI_eq0.mp (Decidable.not_not.mp h2)
      refine w_blk 1 (pc' := 23) (ls' := [some (.ref 0), some (.int (nI k)), some (.int y)]) (sk' := [.int (-1)]) (st' := st) (fun _ h => h) ?_
      rw [show sp_may n c u (nI k) y = (-1) from by unfold sp_may; rw [if_pos (nI_in3 (by omega) hk), if_neg h2]] at hq
      exact w_iret rfl rfl rfl hq
set_option maxRecDepth 20000 in
/-- may -/
theorem x_may_13 (d : Nat) (n : Nat → Nat) (c : Nat → Nat → Nat) (v : Nat → Int32) (u : Nat → Nat) (yd : Nat) (x y : Int32) (st : mSt) (hcw : st.1 0 1 = nI 13) (hX : X13 st n c) (hB : CB n c) (hN : N21 st v u yd) (hU : ∀ j, 3 ≤ j → j < 12 → u j < 256) : mMC mT (d + 4) 91 [.ref 0, .int x, .int y] st (some (.int (sp_may n c u x y))) st := by
  refine mI_X9_may (d := d + 3) (Nat.le_of_ble_eq_true rfl) (fun Q hq => ?_)
  show mW (mMC mT (d + 3)) (0, fun _ => 0) (mAtL P_X9_may) (some .int) Q 0 [some (.ref 0), some (.int x), some (.int y)] [] st
  have hcr : (st.1 0 1).toNatClampNeg = 13 := by rw [hcw]; rfl
  obtain ⟨hn0, hn1, hn2, hxd, hxs, hxy⟩ := id hX
  obtain ⟨hb0, hb1, hb2, hbd, hbs, hby⟩ := id hB
  refine w_blk 1 (pc' := 1) (ls' := [some (.ref 0), some (.int x), some (.int y)]) (sk' := [.ref 0]) (st' := st) (fun _ h => h) ?_
  refine w_blk 1 (pc' := 4) (ls' := [some (.ref 0), some (.int x), some (.int y)]) (sk' := [.ref (Int32.toNatClampNeg (st.1 0 1))]) (st' := st) (fun _ h => h) ?_
  rw [hcr]
  refine w_blk 1 (pc' := 5) (ls' := [some (.ref 0), some (.int x), some (.int y)]) (sk' := [.int x, .ref 13]) (st' := st) (fun _ h => h) ?_
  refine w_callV (As := [.ref 13, .int x]) (rest := []) rfl rfl rfl (Nat.le_of_ble_eq_true rfl) (Nat.le_of_ble_eq_true rfl) (by first | exact Or.inl ⟨rfl, rfl⟩ | exact Or.inr ⟨rfl, rfl⟩) (c_hasDigger_13 (d + 2) x st) ?_
  rw [hn0]
  refine w_if_eq rfl (fun h1 => ?_) (fun h1 => ?_)
  · replace h1 := pI_eq0.mp h1
    refine w_blk 1 (pc' := 23) (ls' := [some (.ref 0), some (.int x), some (.int y)]) (sk' := [.int (-1)]) (st' := st) (fun _ h => h) ?_
    rw [show sp_may n c u x y = (-1) from if_neg h1] at hq
    exact w_iret rfl rfl rfl hq
  · replace h1 := pI_ne.mp h1
    refine w_blk 1 (pc' := 12) (ls' := [some (.ref 0), some (.int x), some (.int y)]) (sk' := [.ref 0]) (st' := st) (fun _ h => h) ?_
    refine w_blk 1 (pc' := 15) (ls' := [some (.ref 0), some (.int x), some (.int y)]) (sk' := [.ref (Int32.toNatClampNeg (st.1 0 1))]) (st' := st) (fun _ h => h) ?_
    rw [hcr]
    refine w_blk 1 (pc' := 16) (ls' := [some (.ref 0), some (.int x), some (.int y)]) (sk' := [.int y, .ref 13]) (st' := st) (fun _ h => h) ?_
    obtain ⟨k, hk, rfl⟩ := nI_in2 (by omega) h1
    refine w_callV (As := [.ref 13, .int y]) (rest := []) rfl rfl rfl (Nat.le_of_ble_eq_true rfl) (Nat.le_of_ble_eq_true rfl) (by first | exact Or.inl ⟨rfl, rfl⟩ | exact Or.inr ⟨rfl, rfl⟩) (c_hasSpade_13 (d + 2) y st) ?_
    rw [hn1]
    refine w_if_ne rfl (fun h2 => ?_) (fun h2 => ?_)
    · replace h2 := pI_ne.mp h2
      refine w_blk 3 (pc' := 29) (ls' := [some (.ref 0), some (.int (nI k)), some (.int y)]) (sk' := [.ref 0, .ref 21]) (st' := st) (fun _ h => h) ?_
      refine w_blk 1 (pc' := 32) (ls' := [some (.ref 0), some (.int (nI k)), some (.int y)]) (sk' := [.ref (Int32.toNatClampNeg (st.1 0 1)), .ref 21]) (st' := st) (fun _ h => h) ?_
      rw [hcr]
      refine w_blk 2 (pc' := 34) (ls' := [some (.ref 0), some (.int (nI k)), some (.int y)]) (sk' := [.int y, .int (nI k), .ref 13, .ref 21]) (st' := st) (fun _ h => h) ?_
      obtain ⟨s, hs, rfl⟩ := nI_in2 (by omega) h2
      refine w_callV (As := [.ref 21, .ref 13, .int (nI k), .int (nI s)]) (rest := []) rfl rfl rfl (Nat.le_of_ble_eq_true rfl) (Nat.le_of_ble_eq_true rfl) (by first | exact Or.inl ⟨rfl, rfl⟩ | exact Or.inr ⟨rfl, rfl⟩) (c_allows_13 (d + 0) n c v u yd k s st hX hB hN hU (by omega) (by omega)) ?_
      refine w_callS (As := [.int (pI ((c 4 s = 0 ∨ c 4 s = c 2 k + 1) ∧ (u 5).testBit s = false ∧ (u (6 + k)).testBit s = false))]) (rest := []) rfl rfl rfl (Nat.le_of_ble_eq_true rfl) (Nat.le_of_ble_eq_true rfl) (c_asNumberP (d + 2) _ st) ?_
      rw [show sp_may n c u (nI k) (nI s) = (pI ((c 4 s = 0 ∨ c 4 s = c 2 k + 1) ∧ (u 5).testBit s = false ∧ (u (6 + k)).testBit s = false)) from by unfold sp_may; rw [if_pos (nI_in3 (by omega) hk), if_pos (nI_in3 (by omega) hs), nI_clamp (show k < 2 ^ 31 by omega), nI_clamp (show s < 2 ^ 31 by omega)]] at hq
      exact w_iret rfl rfl rfl hq
    · replace h2 := pI_eq0.mp (Decidable.not_not.mp h2)
      refine w_blk 1 (pc' := 23) (ls' := [some (.ref 0), some (.int (nI k)), some (.int y)]) (sk' := [.int (-1)]) (st' := st) (fun _ h => h) ?_
      rw [show sp_may n c u (nI k) y = (-1) from by unfold sp_may; rw [if_pos (nI_in3 (by omega) hk), if_neg h2]] at hq
      exact w_iret rfl rfl rfl hq
