/-! FRAMES of the pictures; throws -/
theorem X5_fr {S : List Nat} {st st1 : mSt} {n : Nat → Nat} {c : Nat → Nat → Nat} (hf : Fr S st st1) (hS : ∀ p, p ∈ [5, 6, 7, 8, 9, 10, 11, 12] → p ∉ S) (h : X5 st n c) : X5 st1 n c := by
  unfold X5 at h ⊢
  rw [hf.1 5 (hS 5 (by decide)), hf.1 6 (hS 6 (by decide)), hf.1 7 (hS 7 (by decide)), hf.1 8 (hS 8 (by decide)), hf.1 9 (hS 9 (by decide)), hf.1 10 (hS 10 (by decide)), hf.1 11 (hS 11 (by decide)), hf.1 12 (hS 12 (by decide))]
  exact h
theorem X13_fr {S : List Nat} {st st1 : mSt} {n : Nat → Nat} {c : Nat → Nat → Nat} (hf : Fr S st st1) (hS : ∀ p, p ∈ [13, 14, 15, 16, 17, 18, 19, 20] → p ∉ S) (h : X13 st n c) : X13 st1 n c := by
  unfold X13 at h ⊢
  rw [hf.1 13 (hS 13 (by decide)), hf.1 14 (hS 14 (by decide)), hf.1 15 (hS 15 (by decide)), hf.1 16 (hS 16 (by decide)), hf.1 17 (hS 17 (by decide)), hf.1 18 (hS 18 (by decide)), hf.1 19 (hS 19 (by decide)), hf.1 20 (hS 20 (by decide))]
  exact h
theorem MR_fr {S : List Nat} {st st1 : mSt} {n : Nat → Nat} {c : Nat → Nat → Nat} (hf : Fr S st st1) (hS : ∀ p, p ∈ [55, 59, 62, 56, 57, 58, 60, 61, 63, 64] → p ∉ S) (h : MR st n c) : MR st1 n c := by
  unfold MR at h ⊢
  rw [hf.1 55 (hS 55 (by decide)), hf.1 59 (hS 59 (by decide)), hf.1 62 (hS 62 (by decide)), hf.1 56 (hS 56 (by decide)), hf.1 57 (hS 57 (by decide)), hf.1 58 (hS 58 (by decide)), hf.1 60 (hS 60 (by decide)), hf.1 61 (hS 61 (by decide)), hf.1 63 (hS 63 (by decide)), hf.1 64 (hS 64 (by decide))]
  exact h
theorem N21_fr {S : List Nat} {st st1 : mSt} {v : Nat → Int32} {u : Nat → Nat} {yd : Nat} (hf : Fr S st st1) (hS : ∀ p, p ∈ [21, 22, 23] → p ∉ S) (h : N21 st v u yd) : N21 st1 v u yd := by
  unfold N21 at h ⊢
  rw [hf.1 21 (hS 21 (by decide)), hf.1 22 (hS 22 (by decide)), hf.1 23 (hS 23 (by decide))]
  exact h
theorem N25_fr {S : List Nat} {st st1 : mSt} {v : Nat → Int32} {u : Nat → Nat} {yd : Nat} (hf : Fr S st st1) (hS : ∀ p, p ∈ [25, 26, 27] → p ∉ S) (h : N25 st v u yd) : N25 st1 v u yd := by
  unfold N25 at h ⊢
  rw [hf.1 25 (hS 25 (by decide)), hf.1 26 (hS 26 (by decide)), hf.1 27 (hS 27 (by decide))]
  exact h
theorem N28_fr {S : List Nat} {st st1 : mSt} {v : Nat → Int32} {u : Nat → Nat} {yd : Nat} (hf : Fr S st st1) (hS : ∀ p, p ∈ [28, 29, 30] → p ∉ S) (h : N28 st v u yd) : N28 st1 v u yd := by
  unfold N28 at h ⊢
  rw [hf.1 28 (hS 28 (by decide)), hf.1 29 (hS 29 (by decide)), hf.1 30 (hS 30 (by decide))]
  exact h
theorem NM0_fr {S : List Nat} {st st1 : mSt} {v : Nat → Int32} {u : Nat → Nat} (hf : Fr S st st1) (hS : ∀ p, p ∈ [65] → p ∉ S) (h : NM0 st v u) : NM0 st1 v u := by
  unfold NM0 at h ⊢
  rw [hf.1 65 (hS 65 (by decide))]
  exact h
theorem NM1_fr {S : List Nat} {st st1 : mSt} {v : Nat → Int32} {u : Nat → Nat} (hf : Fr S st st1) (hS : ∀ p, p ∈ [65] → p ∉ S) (h : NM1 st v u) : NM1 st1 v u := by
  unfold NM1 at h ⊢
  rw [hf.1 65 (hS 65 (by decide))]
  exact h
theorem NM2_fr {S : List Nat} {st st1 : mSt} {v : Nat → Int32} {u : Nat → Nat} (hf : Fr S st st1) (hS : ∀ p, p ∈ [65] → p ∉ S) (h : NM2 st v u) : NM2 st1 v u := by
  unfold NM2 at h ⊢
  rw [hf.1 65 (hS 65 (by decide))]
  exact h
theorem pI_eq1 {p : Prop} [Decidable p] : pI p = 1 ↔ p := by
  by_cases h : p
  · rw [pI_t h]
    exact ⟨fun _ => h, fun _ => rfl⟩
  · rw [pI_f h]
    exact ⟨fun e => absurd e (by decide), fun q => absurd q h⟩
theorem pI_in2 {a b : Nat} (ha : a < 2 ^ 31) (hb : b < 2 ^ 31) : pI (0 ≤ nI a ∧ nI a < nI b) = pI (a < b) := pI_cong ⟨fun h => (nI_ltI ha hb).mp h.2, fun h => nI_in3 hb h⟩
theorem updN_comm {u : Nat → Nat} {i j a b : Nat} (h : i ≠ j) : updN (updN u i a) j b = updN (updN u j b) i a := by
  funext k
  unfold updN
  by_cases h1 : k = j
  · rw [if_pos h1, if_neg (show ¬ k = i by omega), if_pos h1]
  · rw [if_neg h1]
    by_cases h2 : k = i
    · rw [if_pos h2, if_pos h2]
    · rw [if_neg h2, if_neg h2, if_neg h1]
theorem c_quotK (d a b : Nat) (st : mSt) (ha : a < 2 ^ 31) (h0 : 0 < b) (hb : b < 2 ^ 31) : mMC mT (d + 1) 128 [.int (nI a), .int (nI b)] st (some (.int (nI (a / b)))) st := by
  have h := c_quot d (nI a) (nI b) st
  rw [if_neg (show ¬ nI b < 1 from fun hh => absurd ((nI_ltI (b := 1) hb (by decide)).mp hh) (by omega)), pk_div ha h0 hb] at h
  exact h
theorem c_remK (d a b : Nat) (st : mSt) (ha : a < 2 ^ 31) (h0 : 0 < b) (hb : b < 2 ^ 31) : mMC mT (d + 1) 129 [.int (nI a), .int (nI b)] st (some (.int (nI (a % b)))) st := by
  have h := c_rem d (nI a) (nI b) st
  rw [if_neg (show ¬ nI b < 1 from fun hh => absurd ((nI_ltI (b := 1) hb (by decide)).mp hh) (by omega)), pk_rem ha h0 hb] at h
  exact h
theorem c_maxK (d a b : Nat) (st : mSt) (ha : a < 2 ^ 31) (hb : b < 2 ^ 31) : mMC mT (d + 1) 3 [.int (nI a), .int (nI b)] st (some (.int (nI (max a b)))) st := by
  have h := c_max d (nI a) (nI b) st
  by_cases hc : a < b
  · rw [if_pos ((nI_ltI ha hb).mpr hc)] at h
    rw [show max a b = b by omega]
    exact h
  · rw [if_neg (fun hh => hc ((nI_ltI ha hb).mp hh))] at h
    rw [show max a b = a by omega]
    exact h
theorem c_minK (d a b : Nat) (st : mSt) (ha : a < 2 ^ 31) (hb : b < 2 ^ 31) : mMC mT (d + 1) 4 [.int (nI a), .int (nI b)] st (some (.int (nI (min a b)))) st := by
  have h := c_min d (nI a) (nI b) st
  by_cases hc : b < a
  · rw [if_pos ((nI_ltI hb ha).mpr hc)] at h
    rw [show min a b = b by omega]
    exact h
  · rw [if_neg (fun hh => hc ((nI_ltI hb ha).mp hh))] at h
    rw [show min a b = a by omega]
    exact h
def th_e (n : Nat → Nat) (c : Nat → Nat → Nat) (yd k s : Nat) : Nat := if yd < n 2 then max 1 (c 0 k * c 3 s / c 6 yd) else c 0 k * c 3 s
def th_u (u : Nat → Nat) (k s : Nat) : Nat → Nat := updN (updN (updN u 3 (u 3 ||| 2 ^ k)) 4 (u 4 ||| 2 ^ s)) (6 + k) (u (6 + k) ||| 2 ^ s)
def dg_a (c : Nat → Nat → Nat) (u : Nat → Nat) (yd e : Nat) : Nat := min (u (12 + yd) + e) (c 5 yd)
def dg_u (n : Nat → Nat) (c : Nat → Nat → Nat) (u : Nat → Nat) (yd e : Nat) : Nat → Nat := if yd < n 2 then updN u (12 + yd) (dg_a c u yd e) else u
def dg_v (n : Nat → Nat) (c : Nat → Nat → Nat) (v : Nat → Int32) (u : Nat → Nat) (yd e : Nat) : Nat → Int32 := if yd < n 2 then updI v 2 (v 2 + nI (dg_a c u yd e - u (12 + yd))) else v
def dg_y (n : Nat → Nat) (c : Nat → Nat → Nat) (u : Nat → Nat) (yd e : Nat) : Nat := if yd < n 2 then (if dg_a c u yd e = c 5 yd then yd + 1 else yd) else yd
abbrev canP (c : Nat → Nat → Nat) (u : Nat → Nat) (k s : Nat) : Prop := ((c 4 s = 0 ∨ c 4 s = c 2 k + 1) ∧ (u 5).testBit s = false ∧ (u (6 + k)).testBit s = false) ∧ (u 3).testBit k = false ∧ (u 4).testBit s = false
abbrev thC (n : Nat → Nat) (c : Nat → Nat → Nat) (u : Nat → Nat) (x y : Int32) : Prop := ok0 n x ∧ ok1 n y ∧ canP c u x.toNatClampNeg y.toNatClampNeg
def sp_throw (n : Nat → Nat) (c : Nat → Nat → Nat) (u : Nat → Nat) (yd : Nat) (x y : Int32) : Int32 := if ok0 n x then (if ok1 n y then (if canP c u x.toNatClampNeg y.toNatClampNeg then nI (th_e n c yd x.toNatClampNeg y.toNatClampNeg) else -2) else -1) else -1
theorem th_prod {n : Nat → Nat} {c : Nat → Nat → Nat} {k s : Nat} (hB : CB n c) (hk : k < n 0) (hs : s < n 1) : 1 ≤ c 0 k * c 3 s ∧ c 0 k * c 3 s ≤ 81 := by
  obtain ⟨hb0, hb1, hb2, hbd, hbs, hby⟩ := hB
  have h1 := hbd k hk
  have h2 := hbs s hs
  exact ⟨Nat.mul_pos (by omega) (by omega), Nat.mul_le_mul (show c 0 k ≤ 9 by omega) (show c 3 s ≤ 9 by omega)⟩
theorem th_e_le {n : Nat → Nat} {c : Nat → Nat → Nat} {yd k s : Nat} (hB : CB n c) (hk : k < n 0) (hs : s < n 1) : th_e n c yd k s ≤ 81 := by
  have h := th_prod hB hk hs
  have h2 : c 0 k * c 3 s / c 6 yd ≤ c 0 k * c 3 s := Nat.div_le_self _ _
  unfold th_e
  repeat' split
  all_goals omega
set_option maxRecDepth 20000 in
/-- earthOf(crew, k, s) -/
theorem c_earthOf_5 (d : Nat) (n : Nat → Nat) (c : Nat → Nat → Nat) (v : Nat → Int32) (u : Nat → Nat) (yd : Nat) (k s : Nat) (st : mSt) (hX : X5 st n c) (hB : CB n c) (hN : N21 st v u yd) (hU : ∀ j, 3 ≤ j → j < 12 → u j < 256) (hyd : yd ≤ n 2) (hk : k < n 0) (hs : s < n 1) : mMC mT (d + 3) 49 [.ref 21, .ref 5, .int (nI k), .int (nI s)] st (some (.int (nI (th_e n c yd k s)))) st := by
  refine mI_X5_earthOf (d := d + 2) (Nat.le_of_ble_eq_true rfl) (fun Q hq => ?_)
  show mW (mMC mT (d + 2)) (0, fun _ => 0) (mAtL P_X5_earthOf) (some .int) Q 0 [some (.ref 21), some (.ref 5), some (.int (nI k)), some (.int (nI s)), none] [] st
  obtain ⟨hb0, hb1, hb2, hbd, hbs, hby⟩ := id hB
  have hpr := th_prod hB hk hs
  refine w_blk 3 (pc' := 5) (ls' := [some (.ref 21), some (.ref 5), some (.int (nI k)), some (.int (nI s)), none]) (sk' := [.int (st.1 21 3), .ref 5]) (st' := st) (fun _ h => h) ?_
  rw [hN.2.2.2.1]
  refine w_callV (As := [.ref 5, .int (nI yd)]) (rest := []) rfl rfl rfl (Nat.le_of_ble_eq_true rfl) (Nat.le_of_ble_eq_true rfl) (by first | exact Or.inl ⟨rfl, rfl⟩ | exact Or.inr ⟨rfl, rfl⟩) (c_hasYard_5 (d + 1) (nI yd) st) ?_
  rw [hX.2.2.1]
  rw [pI_in2 (a := yd) (b := n 2) (by omega) (by omega)]
  refine w_if_eq rfl (fun h1 => ?_) (fun h1 => ?_)
  · replace h1 := pI_eq0.mp h1
    refine w_blk 6 (pc' := 32) (ls' := [some (.ref 21), some (.ref 5), some (.int (nI k)), some (.int (nI s)), some (.int 1)]) (sk' := [.int (nI s), .int (nI k), .ref 5, .int 1]) (st' := st) (fun _ h => h) ?_
    refine w_callV (As := [.ref 5, .int (nI k), .int (nI s)]) (rest := [.int 1]) rfl rfl rfl (Nat.le_of_ble_eq_true rfl) (Nat.le_of_ble_eq_true rfl) (by first | exact Or.inl ⟨rfl, rfl⟩ | exact Or.inr ⟨rfl, rfl⟩) (c_productK_5 (d + 0) n c k s st hX hB (by omega) (by omega)) ?_
    refine w_blk 1 (pc' := 37) (ls' := [some (.ref 21), some (.ref 5), some (.int (nI k)), some (.int (nI s)), some (.int 1)]) (sk' := [.int 1, .int (nI (c 0 k * c 3 s)), .int 1]) (st' := st) (fun _ h => h) ?_
    refine w_callS (As := [.int (nI (c 0 k * c 3 s)), .int 1]) (rest := [.int 1]) rfl rfl rfl (Nat.le_of_ble_eq_true rfl) (Nat.le_of_ble_eq_true rfl) (c_quotK (d + 1) (c 0 k * c 3 s) 1 st (by omega) (by omega) (by omega)) ?_
    have hdv : c 0 k * c 3 s / 1 ≤ c 0 k * c 3 s := Nat.div_le_self _ _
    refine w_callS (As := [.int 1, .int (nI ((c 0 k * c 3 s) / 1))]) (rest := []) rfl rfl rfl (Nat.le_of_ble_eq_true rfl) (Nat.le_of_ble_eq_true rfl) (c_maxK (d + 1) 1 ((c 0 k * c 3 s) / 1) st (by omega) (by omega)) ?_
    rw [show th_e n c yd k s = max 1 (c 0 k * c 3 s / 1) by rw [Nat.div_one]; exact (if_neg h1).trans (by omega)] at hq
    exact w_iret rfl rfl rfl hq
  · replace h1 := pI_ne.mp h1
    refine w_blk 4 (pc' := 19) (ls' := [some (.ref 21), some (.ref 5), some (.int (nI k)), some (.int (nI s)), none]) (sk' := [.int (st.1 21 3), .ref 12]) (st' := st) (fun _ h => h) ?_
    rw [hN.2.2.2.1]
    refine w_callS (As := [.ref 12, .int (nI yd)]) (rest := []) rfl rfl rfl (Nat.le_of_ble_eq_true rfl) (Nat.le_of_ble_eq_true rfl) (c_cellK (d + 1) 12 8 yd st (by omega) (by decide) rfl) ?_
    rw [(hX.2.2.2.2.2 yd (by omega)).2]
    refine w_blk 6 (pc' := 32) (ls' := [some (.ref 21), some (.ref 5), some (.int (nI k)), some (.int (nI s)), some (.int (nI (c 6 yd)))]) (sk' := [.int (nI s), .int (nI k), .ref 5, .int 1]) (st' := st) (fun _ h => h) ?_
    refine w_callV (As := [.ref 5, .int (nI k), .int (nI s)]) (rest := [.int 1]) rfl rfl rfl (Nat.le_of_ble_eq_true rfl) (Nat.le_of_ble_eq_true rfl) (by first | exact Or.inl ⟨rfl, rfl⟩ | exact Or.inr ⟨rfl, rfl⟩) (c_productK_5 (d + 0) n c k s st hX hB (by omega) (by omega)) ?_
    refine w_blk 1 (pc' := 37) (ls' := [some (.ref 21), some (.ref 5), some (.int (nI k)), some (.int (nI s)), some (.int (nI (c 6 yd)))]) (sk' := [.int (nI (c 6 yd)), .int (nI (c 0 k * c 3 s)), .int 1]) (st' := st) (fun _ h => h) ?_
    have h6 := (hby yd h1).2.2
    refine w_callS (As := [.int (nI (c 0 k * c 3 s)), .int (nI (c 6 yd))]) (rest := [.int 1]) rfl rfl rfl (Nat.le_of_ble_eq_true rfl) (Nat.le_of_ble_eq_true rfl) (c_quotK (d + 1) (c 0 k * c 3 s) (c 6 yd) st (by omega) (by omega) (by omega)) ?_
    have hdv : c 0 k * c 3 s / c 6 yd ≤ c 0 k * c 3 s := Nat.div_le_self _ _
    refine w_callS (As := [.int 1, .int (nI ((c 0 k * c 3 s) / (c 6 yd)))]) (rest := []) rfl rfl rfl (Nat.le_of_ble_eq_true rfl) (Nat.le_of_ble_eq_true rfl) (c_maxK (d + 1) 1 ((c 0 k * c 3 s) / (c 6 yd)) st (by omega) (by omega)) ?_
    rw [show th_e n c yd k s = max 1 (c 0 k * c 3 s / c 6 yd) from if_pos h1] at hq
    exact w_iret rfl rfl rfl hq
set_option maxRecDepth 20000 in
/-- earthOf(crew, k, s) -/
theorem c_earthOf_13 (d : Nat) (n : Nat → Nat) (c : Nat → Nat → Nat) (v : Nat → Int32) (u : Nat → Nat) (yd : Nat) (k s : Nat) (st : mSt) (hX : X13 st n c) (hB : CB n c) (hN : N21 st v u yd) (hU : ∀ j, 3 ≤ j → j < 12 → u j < 256) (hyd : yd ≤ n 2) (hk : k < n 0) (hs : s < n 1) : mMC mT (d + 3) 49 [.ref 21, .ref 13, .int (nI k), .int (nI s)] st (some (.int (nI (th_e n c yd k s)))) st := by
  refine mI_X5_earthOf (d := d + 2) (Nat.le_of_ble_eq_true rfl) (fun Q hq => ?_)
  show mW (mMC mT (d + 2)) (0, fun _ => 0) (mAtL P_X5_earthOf) (some .int) Q 0 [some (.ref 21), some (.ref 13), some (.int (nI k)), some (.int (nI s)), none] [] st
  obtain ⟨hb0, hb1, hb2, hbd, hbs, hby⟩ := id hB
  have hpr := th_prod hB hk hs
  refine w_blk 3 (pc' := 5) (ls' := [some (.ref 21), some (.ref 13), some (.int (nI k)), some (.int (nI s)), none]) (sk' := [.int (st.1 21 3), .ref 13]) (st' := st) (fun _ h => h) ?_
  rw [hN.2.2.2.1]
  refine w_callV (As := [.ref 13, .int (nI yd)]) (rest := []) rfl rfl rfl (Nat.le_of_ble_eq_true rfl) (Nat.le_of_ble_eq_true rfl) (by first | exact Or.inl ⟨rfl, rfl⟩ | exact Or.inr ⟨rfl, rfl⟩) (c_hasYard_13 (d + 1) (nI yd) st) ?_
  rw [hX.2.2.1]
  rw [pI_in2 (a := yd) (b := n 2) (by omega) (by omega)]
  refine w_if_eq rfl (fun h1 => ?_) (fun h1 => ?_)
  · replace h1 := pI_eq0.mp h1
    refine w_blk 6 (pc' := 32) (ls' := [some (.ref 21), some (.ref 13), some (.int (nI k)), some (.int (nI s)), some (.int 1)]) (sk' := [.int (nI s), .int (nI k), .ref 13, .int 1]) (st' := st) (fun _ h => h) ?_
    refine w_callV (As := [.ref 13, .int (nI k), .int (nI s)]) (rest := [.int 1]) rfl rfl rfl (Nat.le_of_ble_eq_true rfl) (Nat.le_of_ble_eq_true rfl) (by first | exact Or.inl ⟨rfl, rfl⟩ | exact Or.inr ⟨rfl, rfl⟩) (c_productK_13 (d + 0) n c k s st hX hB (by omega) (by omega)) ?_
    refine w_blk 1 (pc' := 37) (ls' := [some (.ref 21), some (.ref 13), some (.int (nI k)), some (.int (nI s)), some (.int 1)]) (sk' := [.int 1, .int (nI (c 0 k * c 3 s)), .int 1]) (st' := st) (fun _ h => h) ?_
    refine w_callS (As := [.int (nI (c 0 k * c 3 s)), .int 1]) (rest := [.int 1]) rfl rfl rfl (Nat.le_of_ble_eq_true rfl) (Nat.le_of_ble_eq_true rfl) (c_quotK (d + 1) (c 0 k * c 3 s) 1 st (by omega) (by omega) (by omega)) ?_
    have hdv : c 0 k * c 3 s / 1 ≤ c 0 k * c 3 s := Nat.div_le_self _ _
    refine w_callS (As := [.int 1, .int (nI ((c 0 k * c 3 s) / 1))]) (rest := []) rfl rfl rfl (Nat.le_of_ble_eq_true rfl) (Nat.le_of_ble_eq_true rfl) (c_maxK (d + 1) 1 ((c 0 k * c 3 s) / 1) st (by omega) (by omega)) ?_
    rw [show th_e n c yd k s = max 1 (c 0 k * c 3 s / 1) by rw [Nat.div_one]; exact (if_neg h1).trans (by omega)] at hq
    exact w_iret rfl rfl rfl hq
  · replace h1 := pI_ne.mp h1
    refine w_blk 4 (pc' := 19) (ls' := [some (.ref 21), some (.ref 13), some (.int (nI k)), some (.int (nI s)), none]) (sk' := [.int (st.1 21 3), .ref 20]) (st' := st) (fun _ h => h) ?_
    rw [hN.2.2.2.1]
    refine w_callS (As := [.ref 20, .int (nI yd)]) (rest := []) rfl rfl rfl (Nat.le_of_ble_eq_true rfl) (Nat.le_of_ble_eq_true rfl) (c_cellK (d + 1) 20 8 yd st (by omega) (by decide) rfl) ?_
    rw [(hX.2.2.2.2.2 yd (by omega)).2]
    refine w_blk 6 (pc' := 32) (ls' := [some (.ref 21), some (.ref 13), some (.int (nI k)), some (.int (nI s)), some (.int (nI (c 6 yd)))]) (sk' := [.int (nI s), .int (nI k), .ref 13, .int 1]) (st' := st) (fun _ h => h) ?_
    refine w_callV (As := [.ref 13, .int (nI k), .int (nI s)]) (rest := [.int 1]) rfl rfl rfl (Nat.le_of_ble_eq_true rfl) (Nat.le_of_ble_eq_true rfl) (by first | exact Or.inl ⟨rfl, rfl⟩ | exact Or.inr ⟨rfl, rfl⟩) (c_productK_13 (d + 0) n c k s st hX hB (by omega) (by omega)) ?_
    refine w_blk 1 (pc' := 37) (ls' := [some (.ref 21), some (.ref 13), some (.int (nI k)), some (.int (nI s)), some (.int (nI (c 6 yd)))]) (sk' := [.int (nI (c 6 yd)), .int (nI (c 0 k * c 3 s)), .int 1]) (st' := st) (fun _ h => h) ?_
    have h6 := (hby yd h1).2.2
    refine w_callS (As := [.int (nI (c 0 k * c 3 s)), .int (nI (c 6 yd))]) (rest := [.int 1]) rfl rfl rfl (Nat.le_of_ble_eq_true rfl) (Nat.le_of_ble_eq_true rfl) (c_quotK (d + 1) (c 0 k * c 3 s) (c 6 yd) st (by omega) (by omega) (by omega)) ?_
    have hdv : c 0 k * c 3 s / c 6 yd ≤ c 0 k * c 3 s := Nat.div_le_self _ _
    refine w_callS (As := [.int 1, .int (nI ((c 0 k * c 3 s) / (c 6 yd)))]) (rest := []) rfl rfl rfl (Nat.le_of_ble_eq_true rfl) (Nat.le_of_ble_eq_true rfl) (c_maxK (d + 1) 1 ((c 0 k * c 3 s) / (c 6 yd)) st (by omega) (by omega)) ?_
    rw [show th_e n c yd k s = max 1 (c 0 k * c 3 s / c 6 yd) from if_pos h1] at hq
    exact w_iret rfl rfl rfl hq
set_option maxRecDepth 20000 in
/-- noteThrow(k, j) -/
theorem c_noteThrow (d : Nat) (n : Nat → Nat) (c : Nat → Nat → Nat) (v : Nat → Int32) (u : Nat → Nat) (yd : Nat) (k j : Nat) (st : mSt) (hB : CB n c) (hN : N21 st v u yd) (hU : ∀ j, 3 ≤ j → j < 12 → u j < 256) (hyd : yd ≤ n 2) (hk : k < n 0) (hj : j < n 1) : ∃ (s : mSt), mMC mT (d + 2) 50 [.ref 21, .int (nI k), .int (nI j)] st (none) s ∧ N21 s v (th_u u k j) yd ∧ Fr [21, 22, 23] st s := by
  suffices H : ∀ Q : Option Value → mSt → Prop, (∀ (s : mSt), (N21 s v (th_u u k j) yd ∧ Fr [21, 22, 23] st s) → Q (none) s) → mW (mMC mT (d + 1)) (0, fun _ => 0) (mAtL P_X5_noteThrow) none Q 0 [some (.ref 21), some (.int (nI k)), some (.int (nI j))] [] st by
    obtain ⟨_, _, ⟨s, rfl, rfl, hp⟩, hw⟩ := mW_ex (H (fun vv tt => ∃ (s : mSt),  vv = none ∧ s = tt ∧ N21 s v (th_u u k j) yd ∧ Fr [21, 22, 23] st s) (fun s hp => ⟨s, rfl, rfl, hp⟩))
    exact ⟨s, mI_X5_noteThrow (d := d + 1) (Nat.le_of_ble_eq_true rfl) hw, hp⟩
  intro Q hq
  obtain ⟨hb0, hb1, hb2, hbd, hbs, hby⟩ := id hB
  refine w_blk 3 (pc' := 5) (ls' := [some (.ref 21), some (.int (nI k)), some (.int (nI j))]) (sk' := [.int (st.1 21 4), .ref 21]) (st' := st) (fun _ h => h) ?_
  rw [hN.2.2.2.2.1]
  refine w_blk 3 (pc' := 8) (ls' := [some (.ref 21), some (.int (nI k)), some (.int (nI j))]) (sk' := [.int (1 <<< ((nI k) &&& 31)), .int (nI (u 3)), .ref 21]) (st' := st) (fun _ h => h) ?_
  rw [show (1 <<< ((nI k) &&& 31)) = nI (2 ^ k) from nI_shl1 (by omega)]
  refine w_blk 1 (pc' := 9) (ls' := [some (.ref 21), some (.int (nI k)), some (.int (nI j))]) (sk' := [.int ((nI (u 3)) ||| (nI (2 ^ k))), .ref 21]) (st' := st) (fun _ h => h) ?_
  rw [show ((nI (u 3)) ||| (nI (2 ^ k))) = nI ((u 3) ||| (2 ^ k)) from nI_or (u 3) (2 ^ k)]
  refine w_blk 1 (pc' := 12) (ls' := [some (.ref 21), some (.int (nI k)), some (.int (nI j))]) (sk' := []) (st' := ((mU st.1 21 4 (nI ((u 3) ||| (2 ^ k)))), st.2)) (fun _ h => h) ?_
  have hN_2 : N21 ((mU st.1 21 4 (nI ((u 3) ||| (2 ^ k)))), st.2) v (updN u 3 (u 3 ||| 2 ^ k)) yd := N21_who hN _
  have hf_3 : Fr [21, 22, 23] st ((mU st.1 21 4 (nI ((u 3) ||| (2 ^ k)))), st.2) := (Fr.trans (Fr.rf : Fr [21, 22, 23] st st) (Fr.mU (by decide)))
  generalize ((mU st.1 21 4 (nI ((u 3) ||| (2 ^ k)))), st.2) = s1 at hN_2 hf_3 ⊢
  refine w_blk 3 (pc' := 17) (ls' := [some (.ref 21), some (.int (nI k)), some (.int (nI j))]) (sk' := [.int (s1.1 21 5), .ref 21]) (st' := s1) (fun _ h => h) ?_
  rw [(show s1.1 21 5 = nI (u 4) from hN_2.2.2.2.2.2.1.trans (by rw [updN_n (by decide)]))]
  refine w_blk 3 (pc' := 20) (ls' := [some (.ref 21), some (.int (nI k)), some (.int (nI j))]) (sk' := [.int (1 <<< ((nI j) &&& 31)), .int (nI (u 4)), .ref 21]) (st' := s1) (fun _ h => h) ?_
  rw [show (1 <<< ((nI j) &&& 31)) = nI (2 ^ j) from nI_shl1 (by omega)]
  refine w_blk 1 (pc' := 21) (ls' := [some (.ref 21), some (.int (nI k)), some (.int (nI j))]) (sk' := [.int ((nI (u 4)) ||| (nI (2 ^ j))), .ref 21]) (st' := s1) (fun _ h => h) ?_
  rw [show ((nI (u 4)) ||| (nI (2 ^ j))) = nI ((u 4) ||| (2 ^ j)) from nI_or (u 4) (2 ^ j)]
  refine w_blk 1 (pc' := 24) (ls' := [some (.ref 21), some (.int (nI k)), some (.int (nI j))]) (sk' := []) (st' := ((mU s1.1 21 5 (nI ((u 4) ||| (2 ^ j)))), s1.2)) (fun _ h => h) ?_
  have hN_5 : N21 ((mU s1.1 21 5 (nI ((u 4) ||| (2 ^ j)))), s1.2) v (updN (updN u 3 (u 3 ||| 2 ^ k)) 4 (u 4 ||| 2 ^ j)) yd := N21_wth hN_2 _
  have hf_6 : Fr [21, 22, 23] st ((mU s1.1 21 5 (nI ((u 4) ||| (2 ^ j)))), s1.2) := (Fr.trans hf_3 (Fr.mU (by decide)))
  generalize ((mU s1.1 21 5 (nI ((u 4) ||| (2 ^ j)))), s1.2) = s4 at hN_5 hf_6 ⊢
  refine w_blk 6 (pc' := 34) (ls' := [some (.ref 21), some (.int (nI k)), some (.int (nI j))]) (sk' := [.int (nI k), .ref 22, .int (nI k), .ref 22]) (st' := s4) (fun _ h => h) ?_
  refine w_callS (As := [.ref 22, .int (nI k)]) (rest := [.int (nI k), .ref 22]) rfl rfl rfl (Nat.le_of_ble_eq_true rfl) (Nat.le_of_ble_eq_true rfl) (c_cellK (d + 0) 22 6 k s4 (by omega) (by decide) rfl) ?_
  rw [(show s4.1 22 k = nI (u (6 + k)) from (hN_5.2.2.2.2.2.2.2.1 k (by omega)).trans (by rw [updN_n (by omega), updN_n (by omega)]))]
  refine w_blk 3 (pc' := 40) (ls' := [some (.ref 21), some (.int (nI k)), some (.int (nI j))]) (sk' := [.int (1 <<< ((nI j) &&& 31)), .int (nI (u (6 + k))), .int (nI k), .ref 22]) (st' := s4) (fun _ h => h) ?_
  rw [show (1 <<< ((nI j) &&& 31)) = nI (2 ^ j) from nI_shl1 (by omega)]
  refine w_blk 1 (pc' := 41) (ls' := [some (.ref 21), some (.int (nI k)), some (.int (nI j))]) (sk' := [.int ((nI (u (6 + k))) ||| (nI (2 ^ j))), .int (nI k), .ref 22]) (st' := s4) (fun _ h => h) ?_
  rw [show ((nI (u (6 + k))) ||| (nI (2 ^ j))) = nI ((u (6 + k)) ||| (2 ^ j)) from nI_or (u (6 + k)) (2 ^ j)]
  refine w_callS (As := [.ref 22, .int (nI k), .int (nI ((u (6 + k)) ||| (2 ^ j)))]) (rest := []) rfl rfl rfl (Nat.le_of_ble_eq_true rfl) (Nat.le_of_ble_eq_true rfl) (c_putK (d + 0) 22 6 k (nI ((u (6 + k)) ||| (2 ^ j))) s4 (by omega) (by decide) rfl) ?_
  have hN_8 : N21 ((mU s4.1 22 k (nI ((u (6 + k)) ||| (2 ^ j)))), s4.2) v (th_u u k j) yd := N21_thr hN_5 _ _ (by omega)
  have hf_9 : Fr [21, 22, 23] st ((mU s4.1 22 k (nI ((u (6 + k)) ||| (2 ^ j)))), s4.2) := (Fr.trans hf_6 (Fr.mU (by decide)))
  generalize ((mU s4.1 22 k (nI ((u (6 + k)) ||| (2 ^ j)))), s4.2) = s7 at hN_8 hf_9 ⊢
  exact w_vret rfl rfl (hq _ ⟨hN_8, hf_9⟩)
set_option maxRecDepth 20000 in
/-- dig(crew, e) -/
theorem c_dig_5 (d : Nat) (n : Nat → Nat) (c : Nat → Nat → Nat) (v : Nat → Int32) (u : Nat → Nat) (yd : Nat) (e : Nat) (st : mSt) (hX : X5 st n c) (hB : CB n c) (hN : N21 st v u yd) (hU : ∀ j, 3 ≤ j → j < 12 → u j < 256) (hyd : yd ≤ n 2) (hyb : yd < n 2 → u (12 + yd) < c 5 yd) (he : e ≤ 81) : ∃ (s : mSt), mMC mT (d + 2) 51 [.ref 21, .ref 5, .int (nI e)] st (none) s ∧ N21 s (dg_v n c v u yd e) (dg_u n c u yd e) (dg_y n c u yd e) ∧ Fr [21, 22, 23] st s := by
  suffices H : ∀ Q : Option Value → mSt → Prop, (∀ (s : mSt), (N21 s (dg_v n c v u yd e) (dg_u n c u yd e) (dg_y n c u yd e) ∧ Fr [21, 22, 23] st s) → Q (none) s) → mW (mMC mT (d + 1)) (0, fun _ => 0) (mAtL P_X5_dig) none Q 0 [some (.ref 21), some (.ref 5), some (.int (nI e)), none, none] [] st by
    obtain ⟨_, _, ⟨s, rfl, rfl, hp⟩, hw⟩ := mW_ex (H (fun vv tt => ∃ (s : mSt),  vv = none ∧ s = tt ∧ N21 s (dg_v n c v u yd e) (dg_u n c u yd e) (dg_y n c u yd e) ∧ Fr [21, 22, 23] st s) (fun s hp => ⟨s, rfl, rfl, hp⟩))
    exact ⟨s, mI_X5_dig (d := d + 1) (Nat.le_of_ble_eq_true rfl) hw, hp⟩
  intro Q hq
  obtain ⟨hb0, hb1, hb2, hbd, hbs, hby⟩ := id hB
  have hyb2 : yd < n 2 → u (12 + yd) < c 5 yd ∧ c 5 yd ≤ 99 := fun h => ⟨hyb h, (hby yd h).2.1⟩
  refine w_blk 3 (pc' := 5) (ls' := [some (.ref 21), some (.ref 5), some (.int (nI e)), none, none]) (sk' := [.int (st.1 21 3), .ref 5]) (st' := st) (fun _ h => h) ?_
  rw [hN.2.2.2.1]
  refine w_callV (As := [.ref 5, .int (nI yd)]) (rest := []) rfl rfl rfl (Nat.le_of_ble_eq_true rfl) (Nat.le_of_ble_eq_true rfl) (by first | exact Or.inl ⟨rfl, rfl⟩ | exact Or.inr ⟨rfl, rfl⟩) (c_hasYard_5 (d + 0) (nI yd) st) ?_
  rw [hX.2.2.1]
  rw [pI_in2 (a := yd) (b := n 2) (by omega) (by omega)]
  refine w_if_ne rfl (fun h1 => ?_) (fun h1 => ?_)
  · replace h1 := pI_ne.mp h1
    refine w_blk 4 (pc' := 20) (ls' := [some (.ref 21), some (.ref 5), some (.int (nI e)), none, none]) (sk' := [.int (st.1 21 3), .ref 23]) (st' := st) (fun _ h => h) ?_
    rw [hN.2.2.2.1]
    refine w_callS (As := [.ref 23, .int (nI yd)]) (rest := []) rfl rfl rfl (Nat.le_of_ble_eq_true rfl) (Nat.le_of_ble_eq_true rfl) (c_cellK (d + 0) 23 8 yd st (by omega) (by decide) rfl) ?_
    rw [hN.2.2.2.2.2.2.2.2 yd (by omega)]
    refine w_blk 4 (pc' := 27) (ls' := [some (.ref 21), some (.ref 5), some (.int (nI e)), some (.int (nI (u (12 + yd)))), none]) (sk' := [.int ((nI (u (12 + yd))) + (nI e))]) (st' := st) (fun _ h => h) ?_
    rw [show ((nI (u (12 + yd))) + (nI e)) = nI ((u (12 + yd)) + e) from nI_add (u (12 + yd)) e]
    refine w_blk 4 (pc' := 35) (ls' := [some (.ref 21), some (.ref 5), some (.int (nI e)), some (.int (nI (u (12 + yd)))), none]) (sk' := [.int (st.1 21 3), .ref 11, .int (nI ((u (12 + yd)) + e))]) (st' := st) (fun _ h => h) ?_
    rw [hN.2.2.2.1]
    refine w_callS (As := [.ref 11, .int (nI yd)]) (rest := [.int (nI ((u (12 + yd)) + e))]) rfl rfl rfl (Nat.le_of_ble_eq_true rfl) (Nat.le_of_ble_eq_true rfl) (c_cellK (d + 0) 11 8 yd st (by omega) (by decide) rfl) ?_
    rw [(hX.2.2.2.2.2 yd (by omega)).1]
    have hz := hyb2 h1
    refine w_callS (As := [.int (nI ((u (12 + yd)) + e)), .int (nI (c 5 yd))]) (rest := []) rfl rfl rfl (Nat.le_of_ble_eq_true rfl) (Nat.le_of_ble_eq_true rfl) (c_minK (d + 0) ((u (12 + yd)) + e) (c 5 yd) st (by omega) (by omega)) ?_
    rw [show nI (min (u (12 + yd) + e) (c 5 yd)) = nI (dg_a c u yd e) from rfl]
    refine w_blk 5 (pc' := 51) (ls' := [some (.ref 21), some (.ref 5), some (.int (nI e)), some (.int (nI (u (12 + yd)))), some (.int (nI (dg_a c u yd e)))]) (sk' := [.int (st.1 21 3), .ref 23]) (st' := st) (fun _ h => h) ?_
    rw [hN.2.2.2.1]
    refine w_blk 1 (pc' := 53) (ls' := [some (.ref 21), some (.ref 5), some (.int (nI e)), some (.int (nI (u (12 + yd)))), some (.int (nI (dg_a c u yd e)))]) (sk' := [.int (nI (dg_a c u yd e)), .int (nI yd), .ref 23]) (st' := st) (fun _ h => h) ?_
    refine w_callS (As := [.ref 23, .int (nI yd), .int (nI (dg_a c u yd e))]) (rest := []) rfl rfl rfl (Nat.le_of_ble_eq_true rfl) (Nat.le_of_ble_eq_true rfl) (c_putK (d + 0) 23 8 yd (nI (dg_a c u yd e)) st (by omega) (by decide) rfl) ?_
    have hN_2 : N21 ((mU st.1 23 yd (nI (dg_a c u yd e))), st.2) v (updN u (12 + yd) (dg_a c u yd e)) yd := N21_out hN yd _
    have hX_3 : X5 ((mU st.1 23 yd (nI (dg_a c u yd e))), st.2) n c := hX
    have hf_4 : Fr [21, 22, 23] st ((mU st.1 23 yd (nI (dg_a c u yd e))), st.2) := (Fr.trans (Fr.rf : Fr [21, 22, 23] st st) (Fr.mU (by decide)))
    generalize ((mU st.1 23 yd (nI (dg_a c u yd e))), st.2) = s1 at hN_2 hX_3 hf_4 ⊢
    have hle : u (12 + yd) ≤ dg_a c u yd e := by have := hyb h1; unfold dg_a; omega
    have hle2 : dg_a c u yd e ≤ 99 := by have := hby yd h1; unfold dg_a; omega
    refine w_blk 3 (pc' := 61) (ls' := [some (.ref 21), some (.ref 5), some (.int (nI e)), some (.int (nI (u (12 + yd)))), some (.int (nI (dg_a c u yd e)))]) (sk' := [.int (s1.1 21 2), .ref 21]) (st' := s1) (fun _ h => h) ?_
    rw [hN_2.2.2.1]
    refine w_blk 3 (pc' := 65) (ls' := [some (.ref 21), some (.ref 5), some (.int (nI e)), some (.int (nI (u (12 + yd)))), some (.int (nI (dg_a c u yd e)))]) (sk' := [.int ((nI (dg_a c u yd e)) - (nI (u (12 + yd)))), .int (v 2), .ref 21]) (st' := s1) (fun _ h => h) ?_
    rw [show nI (dg_a c u yd e) - nI (u (12 + yd)) = nI (dg_a c u yd e - u (12 + yd)) from pk_sub hle]
    refine w_blk 2 (pc' := 69) (ls' := [some (.ref 21), some (.ref 5), some (.int (nI e)), some (.int (nI (u (12 + yd)))), some (.int (nI (dg_a c u yd e)))]) (sk' := []) (st' := ((mU s1.1 21 2 ((v 2) + (nI (dg_a c u yd e - u (12 + yd))))), s1.2)) (fun _ h => h) ?_
    have hN_6 : N21 ((mU s1.1 21 2 ((v 2) + (nI (dg_a c u yd e - u (12 + yd))))), s1.2) (dg_v n c v u yd e) (updN u (12 + yd) (dg_a c u yd e)) yd := (by unfold dg_v; rw [if_pos h1]; exact N21_ea hN_2 _)
    have hX_7 : X5 ((mU s1.1 21 2 ((v 2) + (nI (dg_a c u yd e - u (12 + yd))))), s1.2) n c := hX_3
    have hf_8 : Fr [21, 22, 23] st ((mU s1.1 21 2 ((v 2) + (nI (dg_a c u yd e - u (12 + yd))))), s1.2) := (Fr.trans hf_4 (Fr.mU (by decide)))
    generalize ((mU s1.1 21 2 ((v 2) + (nI (dg_a c u yd e - u (12 + yd))))), s1.2) = s5 at hN_6 hX_7 hf_8 ⊢
    refine w_blk 5 (pc' := 79) (ls' := [some (.ref 21), some (.ref 5), some (.int (nI e)), some (.int (nI (u (12 + yd)))), some (.int (nI (dg_a c u yd e)))]) (sk' := [.int (s5.1 21 3), .ref 11, .int (nI (dg_a c u yd e))]) (st' := s5) (fun _ h => h) ?_
    rw [hN_6.2.2.2.1]
    refine w_callS (As := [.ref 11, .int (nI yd)]) (rest := [.int (nI (dg_a c u yd e))]) rfl rfl rfl (Nat.le_of_ble_eq_true rfl) (Nat.le_of_ble_eq_true rfl) (c_cellK (d + 0) 11 8 yd s5 (by omega) (by decide) rfl) ?_
    rw [(hX_7.2.2.2.2.2 yd (by omega)).1]
    refine w_cmp_ne rfl (fun h2 => ?_) (fun h2 => ?_)
    · replace h2 : ¬ (dg_a c u yd e = c 5 yd) := fun hh => h2 ((nI_eq (a := (dg_a c u yd e)) (b := (c 5 yd)) (by omega) (by omega)).mpr hh)
      exact w_vret rfl rfl (hq _ ⟨by unfold dg_u dg_y; rw [if_pos h1, if_pos h1, if_neg h2]; exact hN_6, hf_8⟩)
    · replace h2 : dg_a c u yd e = c 5 yd := (nI_eq (a := (dg_a c u yd e)) (b := (c 5 yd)) (by omega) (by omega)).mp (Decidable.not_not.mp h2)
      refine w_blk 3 (pc' := 90) (ls' := [some (.ref 21), some (.ref 5), some (.int (nI e)), some (.int (nI (u (12 + yd)))), some (.int (nI (dg_a c u yd e)))]) (sk' := [.int (s5.1 21 3), .ref 21]) (st' := s5) (fun _ h => h) ?_
      rw [hN_6.2.2.2.1]
      refine w_blk 2 (pc' := 92) (ls' := [some (.ref 21), some (.ref 5), some (.int (nI e)), some (.int (nI (u (12 + yd)))), some (.int (nI (dg_a c u yd e)))]) (sk' := [.int ((nI yd) + 1), .ref 21]) (st' := s5) (fun _ h => h) ?_
      rw [show ((nI yd) + 1) = nI (yd + 1) from nI_add yd 1]
      refine w_blk 1 (pc' := 95) (ls' := [some (.ref 21), some (.ref 5), some (.int (nI e)), some (.int (nI (u (12 + yd)))), some (.int (nI (dg_a c u yd e)))]) (sk' := []) (st' := ((mU s5.1 21 3 (nI (yd + 1))), s5.2)) (fun _ h => h) ?_
      have hN_10 : N21 ((mU s5.1 21 3 (nI (yd + 1))), s5.2) (dg_v n c v u yd e) (updN u (12 + yd) (dg_a c u yd e)) (yd + 1) := N21_yd hN_6 _
      have hf_11 : Fr [21, 22, 23] st ((mU s5.1 21 3 (nI (yd + 1))), s5.2) := (Fr.trans hf_8 (Fr.mU (by decide)))
      generalize ((mU s5.1 21 3 (nI (yd + 1))), s5.2) = s9 at hN_10 hf_11 ⊢
      exact w_vret rfl rfl (hq _ ⟨by unfold dg_u dg_y; rw [if_pos h1, if_pos h1, if_pos h2]; exact hN_10, hf_11⟩)
  · replace h1 := pI_eq0.mp (Decidable.not_not.mp h1)
    exact w_vret rfl rfl (hq _ ⟨by unfold dg_v dg_u dg_y; rw [if_neg h1, if_neg h1, if_neg h1]; exact hN, Fr.rf⟩)
set_option maxRecDepth 20000 in
/-- dig(crew, e) -/
theorem c_dig_13 (d : Nat) (n : Nat → Nat) (c : Nat → Nat → Nat) (v : Nat → Int32) (u : Nat → Nat) (yd : Nat) (e : Nat) (st : mSt) (hX : X13 st n c) (hB : CB n c) (hN : N21 st v u yd) (hU : ∀ j, 3 ≤ j → j < 12 → u j < 256) (hyd : yd ≤ n 2) (hyb : yd < n 2 → u (12 + yd) < c 5 yd) (he : e ≤ 81) : ∃ (s : mSt), mMC mT (d + 2) 51 [.ref 21, .ref 13, .int (nI e)] st (none) s ∧ N21 s (dg_v n c v u yd e) (dg_u n c u yd e) (dg_y n c u yd e) ∧ Fr [21, 22, 23] st s := by
  suffices H : ∀ Q : Option Value → mSt → Prop, (∀ (s : mSt), (N21 s (dg_v n c v u yd e) (dg_u n c u yd e) (dg_y n c u yd e) ∧ Fr [21, 22, 23] st s) → Q (none) s) → mW (mMC mT (d + 1)) (0, fun _ => 0) (mAtL P_X5_dig) none Q 0 [some (.ref 21), some (.ref 13), some (.int (nI e)), none, none] [] st by
    obtain ⟨_, _, ⟨s, rfl, rfl, hp⟩, hw⟩ := mW_ex (H (fun vv tt => ∃ (s : mSt),  vv = none ∧ s = tt ∧ N21 s (dg_v n c v u yd e) (dg_u n c u yd e) (dg_y n c u yd e) ∧ Fr [21, 22, 23] st s) (fun s hp => ⟨s, rfl, rfl, hp⟩))
    exact ⟨s, mI_X5_dig (d := d + 1) (Nat.le_of_ble_eq_true rfl) hw, hp⟩
  intro Q hq
  obtain ⟨hb0, hb1, hb2, hbd, hbs, hby⟩ := id hB
  have hyb2 : yd < n 2 → u (12 + yd) < c 5 yd ∧ c 5 yd ≤ 99 := fun h => ⟨hyb h, (hby yd h).2.1⟩
  refine w_blk 3 (pc' := 5) (ls' := [some (.ref 21), some (.ref 13), some (.int (nI e)), none, none]) (sk' := [.int (st.1 21 3), .ref 13]) (st' := st) (fun _ h => h) ?_
  rw [hN.2.2.2.1]
  refine w_callV (As := [.ref 13, .int (nI yd)]) (rest := []) rfl rfl rfl (Nat.le_of_ble_eq_true rfl) (Nat.le_of_ble_eq_true rfl) (by first | exact Or.inl ⟨rfl, rfl⟩ | exact Or.inr ⟨rfl, rfl⟩) (c_hasYard_13 (d + 0) (nI yd) st) ?_
  rw [hX.2.2.1]
  rw [pI_in2 (a := yd) (b := n 2) (by omega) (by omega)]
  refine w_if_ne rfl (fun h1 => ?_) (fun h1 => ?_)
  · replace h1 := pI_ne.mp h1
    refine w_blk 4 (pc' := 20) (ls' := [some (.ref 21), some (.ref 13), some (.int (nI e)), none, none]) (sk' := [.int (st.1 21 3), .ref 23]) (st' := st) (fun _ h => h) ?_
    rw [hN.2.2.2.1]
    refine w_callS (As := [.ref 23, .int (nI yd)]) (rest := []) rfl rfl rfl (Nat.le_of_ble_eq_true rfl) (Nat.le_of_ble_eq_true rfl) (c_cellK (d + 0) 23 8 yd st (by omega) (by decide) rfl) ?_
    rw [hN.2.2.2.2.2.2.2.2 yd (by omega)]
    refine w_blk 4 (pc' := 27) (ls' := [some (.ref 21), some (.ref 13), some (.int (nI e)), some (.int (nI (u (12 + yd)))), none]) (sk' := [.int ((nI (u (12 + yd))) + (nI e))]) (st' := st) (fun _ h => h) ?_
    rw [show ((nI (u (12 + yd))) + (nI e)) = nI ((u (12 + yd)) + e) from nI_add (u (12 + yd)) e]
    refine w_blk 4 (pc' := 35) (ls' := [some (.ref 21), some (.ref 13), some (.int (nI e)), some (.int (nI (u (12 + yd)))), none]) (sk' := [.int (st.1 21 3), .ref 19, .int (nI ((u (12 + yd)) + e))]) (st' := st) (fun _ h => h) ?_
    rw [hN.2.2.2.1]
    refine w_callS (As := [.ref 19, .int (nI yd)]) (rest := [.int (nI ((u (12 + yd)) + e))]) rfl rfl rfl (Nat.le_of_ble_eq_true rfl) (Nat.le_of_ble_eq_true rfl) (c_cellK (d + 0) 19 8 yd st (by omega) (by decide) rfl) ?_
    rw [(hX.2.2.2.2.2 yd (by omega)).1]
    have hz := hyb2 h1
    refine w_callS (As := [.int (nI ((u (12 + yd)) + e)), .int (nI (c 5 yd))]) (rest := []) rfl rfl rfl (Nat.le_of_ble_eq_true rfl) (Nat.le_of_ble_eq_true rfl) (c_minK (d + 0) ((u (12 + yd)) + e) (c 5 yd) st (by omega) (by omega)) ?_
    rw [show nI (min (u (12 + yd) + e) (c 5 yd)) = nI (dg_a c u yd e) from rfl]
    refine w_blk 5 (pc' := 51) (ls' := [some (.ref 21), some (.ref 13), some (.int (nI e)), some (.int (nI (u (12 + yd)))), some (.int (nI (dg_a c u yd e)))]) (sk' := [.int (st.1 21 3), .ref 23]) (st' := st) (fun _ h => h) ?_
    rw [hN.2.2.2.1]
    refine w_blk 1 (pc' := 53) (ls' := [some (.ref 21), some (.ref 13), some (.int (nI e)), some (.int (nI (u (12 + yd)))), some (.int (nI (dg_a c u yd e)))]) (sk' := [.int (nI (dg_a c u yd e)), .int (nI yd), .ref 23]) (st' := st) (fun _ h => h) ?_
    refine w_callS (As := [.ref 23, .int (nI yd), .int (nI (dg_a c u yd e))]) (rest := []) rfl rfl rfl (Nat.le_of_ble_eq_true rfl) (Nat.le_of_ble_eq_true rfl) (c_putK (d + 0) 23 8 yd (nI (dg_a c u yd e)) st (by omega) (by decide) rfl) ?_
    have hN_2 : N21 ((mU st.1 23 yd (nI (dg_a c u yd e))), st.2) v (updN u (12 + yd) (dg_a c u yd e)) yd := N21_out hN yd _
    have hX_3 : X13 ((mU st.1 23 yd (nI (dg_a c u yd e))), st.2) n c := hX
    have hf_4 : Fr [21, 22, 23] st ((mU st.1 23 yd (nI (dg_a c u yd e))), st.2) := (Fr.trans (Fr.rf : Fr [21, 22, 23] st st) (Fr.mU (by decide)))
    generalize ((mU st.1 23 yd (nI (dg_a c u yd e))), st.2) = s1 at hN_2 hX_3 hf_4 ⊢
    have hle : u (12 + yd) ≤ dg_a c u yd e := by have := hyb h1; unfold dg_a; omega
    have hle2 : dg_a c u yd e ≤ 99 := by have := hby yd h1; unfold dg_a; omega
    refine w_blk 3 (pc' := 61) (ls' := [some (.ref 21), some (.ref 13), some (.int (nI e)), some (.int (nI (u (12 + yd)))), some (.int (nI (dg_a c u yd e)))]) (sk' := [.int (s1.1 21 2), .ref 21]) (st' := s1) (fun _ h => h) ?_
    rw [hN_2.2.2.1]
    refine w_blk 3 (pc' := 65) (ls' := [some (.ref 21), some (.ref 13), some (.int (nI e)), some (.int (nI (u (12 + yd)))), some (.int (nI (dg_a c u yd e)))]) (sk' := [.int ((nI (dg_a c u yd e)) - (nI (u (12 + yd)))), .int (v 2), .ref 21]) (st' := s1) (fun _ h => h) ?_
    rw [show nI (dg_a c u yd e) - nI (u (12 + yd)) = nI (dg_a c u yd e - u (12 + yd)) from pk_sub hle]
    refine w_blk 2 (pc' := 69) (ls' := [some (.ref 21), some (.ref 13), some (.int (nI e)), some (.int (nI (u (12 + yd)))), some (.int (nI (dg_a c u yd e)))]) (sk' := []) (st' := ((mU s1.1 21 2 ((v 2) + (nI (dg_a c u yd e - u (12 + yd))))), s1.2)) (fun _ h => h) ?_
    have hN_6 : N21 ((mU s1.1 21 2 ((v 2) + (nI (dg_a c u yd e - u (12 + yd))))), s1.2) (dg_v n c v u yd e) (updN u (12 + yd) (dg_a c u yd e)) yd := (by unfold dg_v; rw [if_pos h1]; exact N21_ea hN_2 _)
    have hX_7 : X13 ((mU s1.1 21 2 ((v 2) + (nI (dg_a c u yd e - u (12 + yd))))), s1.2) n c := hX_3
    have hf_8 : Fr [21, 22, 23] st ((mU s1.1 21 2 ((v 2) + (nI (dg_a c u yd e - u (12 + yd))))), s1.2) := (Fr.trans hf_4 (Fr.mU (by decide)))
    generalize ((mU s1.1 21 2 ((v 2) + (nI (dg_a c u yd e - u (12 + yd))))), s1.2) = s5 at hN_6 hX_7 hf_8 ⊢
    refine w_blk 5 (pc' := 79) (ls' := [some (.ref 21), some (.ref 13), some (.int (nI e)), some (.int (nI (u (12 + yd)))), some (.int (nI (dg_a c u yd e)))]) (sk' := [.int (s5.1 21 3), .ref 19, .int (nI (dg_a c u yd e))]) (st' := s5) (fun _ h => h) ?_
    rw [hN_6.2.2.2.1]
    refine w_callS (As := [.ref 19, .int (nI yd)]) (rest := [.int (nI (dg_a c u yd e))]) rfl rfl rfl (Nat.le_of_ble_eq_true rfl) (Nat.le_of_ble_eq_true rfl) (c_cellK (d + 0) 19 8 yd s5 (by omega) (by decide) rfl) ?_
    rw [(hX_7.2.2.2.2.2 yd (by omega)).1]
    refine w_cmp_ne rfl (fun h2 => ?_) (fun h2 => ?_)
    · replace h2 : ¬ (dg_a c u yd e = c 5 yd) := fun hh => h2 ((nI_eq (a := (dg_a c u yd e)) (b := (c 5 yd)) (by omega) (by omega)).mpr hh)
      exact w_vret rfl rfl (hq _ ⟨by unfold dg_u dg_y; rw [if_pos h1, if_pos h1, if_neg h2]; exact hN_6, hf_8⟩)
    · replace h2 : dg_a c u yd e = c 5 yd := (nI_eq (a := (dg_a c u yd e)) (b := (c 5 yd)) (by omega) (by omega)).mp (Decidable.not_not.mp h2)
      refine w_blk 3 (pc' := 90) (ls' := [some (.ref 21), some (.ref 13), some (.int (nI e)), some (.int (nI (u (12 + yd)))), some (.int (nI (dg_a c u yd e)))]) (sk' := [.int (s5.1 21 3), .ref 21]) (st' := s5) (fun _ h => h) ?_
      rw [hN_6.2.2.2.1]
      refine w_blk 2 (pc' := 92) (ls' := [some (.ref 21), some (.ref 13), some (.int (nI e)), some (.int (nI (u (12 + yd)))), some (.int (nI (dg_a c u yd e)))]) (sk' := [.int ((nI yd) + 1), .ref 21]) (st' := s5) (fun _ h => h) ?_
      rw [show ((nI yd) + 1) = nI (yd + 1) from nI_add yd 1]
      refine w_blk 1 (pc' := 95) (ls' := [some (.ref 21), some (.ref 13), some (.int (nI e)), some (.int (nI (u (12 + yd)))), some (.int (nI (dg_a c u yd e)))]) (sk' := []) (st' := ((mU s5.1 21 3 (nI (yd + 1))), s5.2)) (fun _ h => h) ?_
      have hN_10 : N21 ((mU s5.1 21 3 (nI (yd + 1))), s5.2) (dg_v n c v u yd e) (updN u (12 + yd) (dg_a c u yd e)) (yd + 1) := N21_yd hN_6 _
      have hf_11 : Fr [21, 22, 23] st ((mU s5.1 21 3 (nI (yd + 1))), s5.2) := (Fr.trans hf_8 (Fr.mU (by decide)))
      generalize ((mU s5.1 21 3 (nI (yd + 1))), s5.2) = s9 at hN_10 hf_11 ⊢
      exact w_vret rfl rfl (hq _ ⟨by unfold dg_u dg_y; rw [if_pos h1, if_pos h1, if_pos h2]; exact hN_10, hf_11⟩)
  · replace h1 := pI_eq0.mp (Decidable.not_not.mp h1)
    exact w_vret rfl rfl (hq _ ⟨by unfold dg_v dg_u dg_y; rw [if_neg h1, if_neg h1, if_neg h1]; exact hN, Fr.rf⟩)
theorem th_u_bd {n : Nat → Nat} {u : Nat → Nat} {k j : Nat} (h0 : n 0 ≤ 6) (h1 : n 1 ≤ 8) (hk : k < n 0) (hj : j < n 1) (hU : ∀ i, 3 ≤ i → i < 12 → u i < 256) : ∀ i, 3 ≤ i → i < 12 → th_u u k j i < 256 := by
  intro i h3 h12
  unfold th_u updN
  have a3 := hU 3 (by omega) (by omega)
  have a4 := hU 4 (by omega) (by omega)
  have ak := hU (6 + k) (by omega) (by omega)
  have ai := hU i h3 h12
  repeat' split
  · exact or_lt (m := 8) ak (by omega)
  · exact or_lt (m := 8) a4 (by omega)
  · exact or_lt (m := 8) a3 (by omega)
  · exact ai
theorem th_u_out {u : Nat → Nat} {k j y : Nat} (hk : k < 6) : th_u u k j (12 + y) = u (12 + y) := by
  unfold th_u
  rw [updN_n (by omega), updN_n (by omega), updN_n (by omega)]
def tw_v (n : Nat → Nat) (c : Nat → Nat → Nat) (v : Nat → Int32) (u : Nat → Nat) (yd : Nat) (x y : Int32) : Nat → Int32 := if thC n c u x y then dg_v n c v (th_u u x.toNatClampNeg y.toNatClampNeg) yd (th_e n c yd x.toNatClampNeg y.toNatClampNeg) else v
def tw_u (n : Nat → Nat) (c : Nat → Nat → Nat) (u : Nat → Nat) (yd : Nat) (x y : Int32) : Nat → Nat := if thC n c u x y then dg_u n c (th_u u x.toNatClampNeg y.toNatClampNeg) yd (th_e n c yd x.toNatClampNeg y.toNatClampNeg) else u
def tw_y (n : Nat → Nat) (c : Nat → Nat → Nat) (u : Nat → Nat) (yd : Nat) (x y : Int32) : Nat := if thC n c u x y then dg_y n c (th_u u x.toNatClampNeg y.toNatClampNeg) yd (th_e n c yd x.toNatClampNeg y.toNatClampNeg) else yd
theorem thC_iff {n : Nat → Nat} {c : Nat → Nat → Nat} {u : Nat → Nat} {k j : Nat} (h0 : n 0 < 2 ^ 31) (h1 : n 1 < 2 ^ 31) (hk : k < n 0) (hj : j < n 1) : thC n c u (nI k) (nI j) ↔ canP c u k j := by
  unfold thC
  rw [nI_clamp (show k < 2 ^ 31 by omega), nI_clamp (show j < 2 ^ 31 by omega)]
  exact ⟨fun h => h.2.2, fun h => ⟨nI_in3 h0 hk, nI_in3 h1 hj, h⟩⟩
set_option maxRecDepth 20000 in
/-- throwWith -/
theorem x_throwWith_5 (d : Nat) (n : Nat → Nat) (c : Nat → Nat → Nat) (v : Nat → Int32) (u : Nat → Nat) (yd : Nat) (x y : Int32) (st : mSt) (hcw : st.1 0 1 = nI 5) (hX : X5 st n c) (hB : CB n c) (hN : N21 st v u yd) (hU : ∀ j, 3 ≤ j → j < 12 → u j < 256) (hyd : yd ≤ n 2) (hyb : yd < n 2 → u (12 + yd) < c 5 yd) : ∃ (s : mSt), mMC mT (d + 5) 92 [.ref 0, .int x, .int y] st (some (.int (sp_throw n c u yd x y))) s ∧ N21 s (tw_v n c v u yd x y) (tw_u n c u yd x y) (tw_y n c u yd x y) ∧ Fr [21, 22, 23] st s := by
  suffices H : ∀ Q : Option Value → mSt → Prop, (∀ (s : mSt), (N21 s (tw_v n c v u yd x y) (tw_u n c u yd x y) (tw_y n c u yd x y) ∧ Fr [21, 22, 23] st s) → Q (some (.int (sp_throw n c u yd x y))) s) → mW (mMC mT (d + 4)) (0, fun _ => 0) (mAtL P_X9_throwWith) (some .int) Q 0 [some (.ref 0), some (.int x), some (.int y), none] [] st by
    obtain ⟨_, _, ⟨s, rfl, rfl, hp⟩, hw⟩ := mW_ex (H (fun vv tt => ∃ (s : mSt),  vv = some (.int (sp_throw n c u yd x y)) ∧ s = tt ∧ N21 s (tw_v n c v u yd x y) (tw_u n c u yd x y) (tw_y n c u yd x y) ∧ Fr [21, 22, 23] st s) (fun s hp => ⟨s, rfl, rfl, hp⟩))
    exact ⟨s, mI_X9_throwWith (d := d + 4) (Nat.le_of_ble_eq_true rfl) hw, hp⟩
  intro Q hq
  have hcr : (st.1 0 1).toNatClampNeg = 5 := by rw [hcw]; rfl
  obtain ⟨hb0, hb1, hb2, hbd, hbs, hby⟩ := id hB
  refine w_blk 1 (pc' := 1) (ls' := [some (.ref 0), some (.int x), some (.int y), none]) (sk' := [.ref 0]) (st' := st) (fun _ h => h) ?_
  refine w_blk 1 (pc' := 4) (ls' := [some (.ref 0), some (.int x), some (.int y), none]) (sk' := [.ref (Int32.toNatClampNeg (st.1 0 1))]) (st' := st) (fun _ h => h) ?_
  rw [hcr]
  refine w_blk 1 (pc' := 5) (ls' := [some (.ref 0), some (.int x), some (.int y), none]) (sk' := [.int x, .ref 5]) (st' := st) (fun _ h => h) ?_
  refine w_callV (As := [.ref 5, .int x]) (rest := []) rfl rfl rfl (Nat.le_of_ble_eq_true rfl) (Nat.le_of_ble_eq_true rfl) (by first | exact Or.inl ⟨rfl, rfl⟩ | exact Or.inr ⟨rfl, rfl⟩) (c_hasDigger_5 (d + 3) x st) ?_
  rw [hX.1]
  refine w_if_eq rfl (fun h1 => ?_) (fun h1 => ?_)
  · replace h1 := pI_eq0.mp h1
    refine w_blk 1 (pc' := 23) (ls' := [some (.ref 0), some (.int x), some (.int y), none]) (sk' := [.int (-1)]) (st' := st) (fun _ h => h) ?_
    have hno : ¬ thC n c u x y := fun h => h1 h.1
    rw [show tw_v n c v u yd x y = v from if_neg hno, show tw_u n c u yd x y = u from if_neg hno, show tw_y n c u yd x y = yd from if_neg hno, show sp_throw n c u yd x y = (-1) from if_neg h1] at hq
    exact w_iret rfl rfl rfl (hq _ ⟨hN, Fr.rf⟩)
  · replace h1 := pI_ne.mp h1
    refine w_blk 1 (pc' := 12) (ls' := [some (.ref 0), some (.int x), some (.int y), none]) (sk' := [.ref 0]) (st' := st) (fun _ h => h) ?_
    refine w_blk 1 (pc' := 15) (ls' := [some (.ref 0), some (.int x), some (.int y), none]) (sk' := [.ref (Int32.toNatClampNeg (st.1 0 1))]) (st' := st) (fun _ h => h) ?_
    rw [hcr]
    refine w_blk 1 (pc' := 16) (ls' := [some (.ref 0), some (.int x), some (.int y), none]) (sk' := [.int y, .ref 5]) (st' := st) (fun _ h => h) ?_
    obtain ⟨k, hk, rfl⟩ := nI_in2 (by omega) h1
    refine w_callV (As := [.ref 5, .int y]) (rest := []) rfl rfl rfl (Nat.le_of_ble_eq_true rfl) (Nat.le_of_ble_eq_true rfl) (by first | exact Or.inl ⟨rfl, rfl⟩ | exact Or.inr ⟨rfl, rfl⟩) (c_hasSpade_5 (d + 3) y st) ?_
    rw [hX.2.1]
    refine w_if_ne rfl (fun h2 => ?_) (fun h2 => ?_)
    · replace h2 := pI_ne.mp h2
      refine w_blk 3 (pc' := 29) (ls' := [some (.ref 0), some (.int (nI k)), some (.int y), none]) (sk' := [.ref 0, .ref 21]) (st' := st) (fun _ h => h) ?_
      refine w_blk 1 (pc' := 32) (ls' := [some (.ref 0), some (.int (nI k)), some (.int y), none]) (sk' := [.ref (Int32.toNatClampNeg (st.1 0 1)), .ref 21]) (st' := st) (fun _ h => h) ?_
      rw [hcr]
      refine w_blk 2 (pc' := 34) (ls' := [some (.ref 0), some (.int (nI k)), some (.int y), none]) (sk' := [.int y, .int (nI k), .ref 5, .ref 21]) (st' := st) (fun _ h => h) ?_
      obtain ⟨j, hj, rfl⟩ := nI_in2 (by omega) h2
      refine w_callV (As := [.ref 21, .ref 5, .int (nI k), .int (nI j)]) (rest := []) rfl rfl rfl (Nat.le_of_ble_eq_true rfl) (Nat.le_of_ble_eq_true rfl) (by first | exact Or.inl ⟨rfl, rfl⟩ | exact Or.inr ⟨rfl, rfl⟩) (c_canThrow_5 (d + 0) n c v u yd k j st hX hB hN hU (by omega) (by omega)) ?_
      refine w_if_ne rfl (fun h3 => ?_) (fun h3 => ?_)
      · replace h3 := pI_ne.mp h3
        refine w_blk 3 (pc' := 48) (ls' := [some (.ref 0), some (.int (nI k)), some (.int (nI j)), none]) (sk' := [.ref 0, .ref 21]) (st' := st) (fun _ h => h) ?_
        refine w_blk 1 (pc' := 51) (ls' := [some (.ref 0), some (.int (nI k)), some (.int (nI j)), none]) (sk' := [.ref (Int32.toNatClampNeg (st.1 0 1)), .ref 21]) (st' := st) (fun _ h => h) ?_
        rw [hcr]
        refine w_blk 2 (pc' := 53) (ls' := [some (.ref 0), some (.int (nI k)), some (.int (nI j)), none]) (sk' := [.int (nI j), .int (nI k), .ref 5, .ref 21]) (st' := st) (fun _ h => h) ?_
        refine w_callV (As := [.ref 21, .ref 5, .int (nI k), .int (nI j)]) (rest := []) rfl rfl rfl (Nat.le_of_ble_eq_true rfl) (Nat.le_of_ble_eq_true rfl) (by first | exact Or.inl ⟨rfl, rfl⟩ | exact Or.inr ⟨rfl, rfl⟩) (c_earthOf_5 (d + 1) n c v u yd k j st hX hB hN hU hyd (by omega) (by omega)) ?_
        refine w_blk 5 (pc' := 63) (ls' := [some (.ref 0), some (.int (nI k)), some (.int (nI j)), some (.int (nI (th_e n c yd k j)))]) (sk' := [.int (nI j), .int (nI k), .ref 21]) (st' := st) (fun _ h => h) ?_
        obtain ⟨s1, hc_2, hN_3, hf_4⟩ := c_noteThrow (d + 2) n c v u yd k j st hB hN hU hyd (by omega) (by omega)
        refine w_callV (As := [.ref 21, .int (nI k), .int (nI j)]) (rest := []) rfl rfl rfl (Nat.le_of_ble_eq_true rfl) (Nat.le_of_ble_eq_true rfl) (by first | exact Or.inl ⟨rfl, rfl⟩ | exact Or.inr ⟨rfl, rfl⟩) hc_2 ?_
        have hf_5 := Fr.trans (Fr.rf : Fr [21, 22, 23] st st) hf_4
        have hUt := th_u_bd hb0 hb1 hk hj hU
        have hybt : yd < n 2 → th_u u k j (12 + yd) < c 5 yd := fun h => by rw [th_u_out (by omega)]; exact hyb h
        have hee := th_e_le (yd := yd) hB hk hj
        have hXn := X5_fr hf_5 (by decide) hX
        have hcrn : (s1.1 0 1).toNatClampNeg = 5 := by rw [hf_5.1 0 (by decide)]; exact hcr
        refine w_blk 3 (pc' := 71) (ls' := [some (.ref 0), some (.int (nI k)), some (.int (nI j)), some (.int (nI (th_e n c yd k j)))]) (sk' := [.ref 0, .ref 21]) (st' := s1) (fun _ h => h) ?_
        refine w_blk 1 (pc' := 74) (ls' := [some (.ref 0), some (.int (nI k)), some (.int (nI j)), some (.int (nI (th_e n c yd k j)))]) (sk' := [.ref (Int32.toNatClampNeg (s1.1 0 1)), .ref 21]) (st' := s1) (fun _ h => h) ?_
        rw [hcrn]
        refine w_blk 1 (pc' := 75) (ls' := [some (.ref 0), some (.int (nI k)), some (.int (nI j)), some (.int (nI (th_e n c yd k j)))]) (sk' := [.int (nI (th_e n c yd k j)), .ref 5, .ref 21]) (st' := s1) (fun _ h => h) ?_
        obtain ⟨s6, hc_7, hN_8, hf_9⟩ := c_dig_5 (d + 2) n c v (th_u u k j) yd (th_e n c yd k j) s1 hXn hB hN_3 hUt hyd hybt (by omega)
        refine w_callV (As := [.ref 21, .ref 5, .int (nI (th_e n c yd k j))]) (rest := []) rfl rfl rfl (Nat.le_of_ble_eq_true rfl) (Nat.le_of_ble_eq_true rfl) (by first | exact Or.inl ⟨rfl, rfl⟩ | exact Or.inr ⟨rfl, rfl⟩) hc_7 ?_
        have hf_10 := Fr.trans hf_5 hf_9
        refine w_blk 1 (pc' := 79) (ls' := [some (.ref 0), some (.int (nI k)), some (.int (nI j)), some (.int (nI (th_e n c yd k j)))]) (sk' := [.int (nI (th_e n c yd k j))]) (st' := s6) (fun _ h => h) ?_
        have hyes : thC n c u (nI k) (nI j) := (thC_iff (by omega) (by omega) hk hj).mpr h3
        rw [show tw_v n c v u yd (nI k) (nI j) = dg_v n c v (th_u u k j) yd (th_e n c yd k j) by unfold tw_v; rw [if_pos hyes, nI_clamp (show k < 2 ^ 31 by omega), nI_clamp (show j < 2 ^ 31 by omega)], show tw_u n c u yd (nI k) (nI j) = dg_u n c (th_u u k j) yd (th_e n c yd k j) by unfold tw_u; rw [if_pos hyes, nI_clamp (show k < 2 ^ 31 by omega), nI_clamp (show j < 2 ^ 31 by omega)], show tw_y n c u yd (nI k) (nI j) = dg_y n c (th_u u k j) yd (th_e n c yd k j) by unfold tw_y; rw [if_pos hyes, nI_clamp (show k < 2 ^ 31 by omega), nI_clamp (show j < 2 ^ 31 by omega)], show sp_throw n c u yd (nI k) (nI j) = (nI (th_e n c yd k j)) by unfold sp_throw; rw [if_pos (nI_in3 (by omega) hk), if_pos (nI_in3 (by omega) hj), nI_clamp (show k < 2 ^ 31 by omega), nI_clamp (show j < 2 ^ 31 by omega), if_pos h3]] at hq
        exact w_iret rfl rfl rfl (hq _ ⟨hN_8, hf_10⟩)
      · replace h3 := pI_eq0.mp (Decidable.not_not.mp h3)
        refine w_blk 1 (pc' := 42) (ls' := [some (.ref 0), some (.int (nI k)), some (.int (nI j)), none]) (sk' := [.int (-2)]) (st' := st) (fun _ h => h) ?_
        have hno : ¬ thC n c u (nI k) (nI j) := fun h => h3 ((thC_iff (by omega) (by omega) hk hj).mp h)
        rw [show tw_v n c v u yd (nI k) (nI j) = v from if_neg hno, show tw_u n c u yd (nI k) (nI j) = u from if_neg hno, show tw_y n c u yd (nI k) (nI j) = yd from if_neg hno, show sp_throw n c u yd (nI k) (nI j) = (-2) from by unfold sp_throw; rw [if_pos (nI_in3 (by omega) hk), if_pos (nI_in3 (by omega) hj), nI_clamp (show k < 2 ^ 31 by omega), nI_clamp (show j < 2 ^ 31 by omega), if_neg h3]] at hq
        exact w_iret rfl rfl rfl (hq _ ⟨hN, Fr.rf⟩)
    · replace h2 := pI_eq0.mp (Decidable.not_not.mp h2)
      refine w_blk 1 (pc' := 23) (ls' := [some (.ref 0), some (.int (nI k)), some (.int y), none]) (sk' := [.int (-1)]) (st' := st) (fun _ h => h) ?_
      have hno : ¬ thC n c u (nI k) y := fun h => h2 h.2.1
      rw [show tw_v n c v u yd (nI k) y = v from if_neg hno, show tw_u n c u yd (nI k) y = u from if_neg hno, show tw_y n c u yd (nI k) y = yd from if_neg hno, show sp_throw n c u yd (nI k) y = (-1) from (if_pos (nI_in3 (by omega) hk)).trans (if_neg h2)] at hq
      exact w_iret rfl rfl rfl (hq _ ⟨hN, Fr.rf⟩)
set_option maxRecDepth 20000 in
/-- throwWith -/
theorem x_throwWith_13 (d : Nat) (n : Nat → Nat) (c : Nat → Nat → Nat) (v : Nat → Int32) (u : Nat → Nat) (yd : Nat) (x y : Int32) (st : mSt) (hcw : st.1 0 1 = nI 13) (hX : X13 st n c) (hB : CB n c) (hN : N21 st v u yd) (hU : ∀ j, 3 ≤ j → j < 12 → u j < 256) (hyd : yd ≤ n 2) (hyb : yd < n 2 → u (12 + yd) < c 5 yd) : ∃ (s : mSt), mMC mT (d + 5) 92 [.ref 0, .int x, .int y] st (some (.int (sp_throw n c u yd x y))) s ∧ N21 s (tw_v n c v u yd x y) (tw_u n c u yd x y) (tw_y n c u yd x y) ∧ Fr [21, 22, 23] st s := by
  suffices H : ∀ Q : Option Value → mSt → Prop, (∀ (s : mSt), (N21 s (tw_v n c v u yd x y) (tw_u n c u yd x y) (tw_y n c u yd x y) ∧ Fr [21, 22, 23] st s) → Q (some (.int (sp_throw n c u yd x y))) s) → mW (mMC mT (d + 4)) (0, fun _ => 0) (mAtL P_X9_throwWith) (some .int) Q 0 [some (.ref 0), some (.int x), some (.int y), none] [] st by
    obtain ⟨_, _, ⟨s, rfl, rfl, hp⟩, hw⟩ := mW_ex (H (fun vv tt => ∃ (s : mSt),  vv = some (.int (sp_throw n c u yd x y)) ∧ s = tt ∧ N21 s (tw_v n c v u yd x y) (tw_u n c u yd x y) (tw_y n c u yd x y) ∧ Fr [21, 22, 23] st s) (fun s hp => ⟨s, rfl, rfl, hp⟩))
    exact ⟨s, mI_X9_throwWith (d := d + 4) (Nat.le_of_ble_eq_true rfl) hw, hp⟩
  intro Q hq
  have hcr : (st.1 0 1).toNatClampNeg = 13 := by rw [hcw]; rfl
  obtain ⟨hb0, hb1, hb2, hbd, hbs, hby⟩ := id hB
  refine w_blk 1 (pc' := 1) (ls' := [some (.ref 0), some (.int x), some (.int y), none]) (sk' := [.ref 0]) (st' := st) (fun _ h => h) ?_
  refine w_blk 1 (pc' := 4) (ls' := [some (.ref 0), some (.int x), some (.int y), none]) (sk' := [.ref (Int32.toNatClampNeg (st.1 0 1))]) (st' := st) (fun _ h => h) ?_
  rw [hcr]
  refine w_blk 1 (pc' := 5) (ls' := [some (.ref 0), some (.int x), some (.int y), none]) (sk' := [.int x, .ref 13]) (st' := st) (fun _ h => h) ?_
  refine w_callV (As := [.ref 13, .int x]) (rest := []) rfl rfl rfl (Nat.le_of_ble_eq_true rfl) (Nat.le_of_ble_eq_true rfl) (by first | exact Or.inl ⟨rfl, rfl⟩ | exact Or.inr ⟨rfl, rfl⟩) (c_hasDigger_13 (d + 3) x st) ?_
  rw [hX.1]
  refine w_if_eq rfl (fun h1 => ?_) (fun h1 => ?_)
  · replace h1 := pI_eq0.mp h1
    refine w_blk 1 (pc' := 23) (ls' := [some (.ref 0), some (.int x), some (.int y), none]) (sk' := [.int (-1)]) (st' := st) (fun _ h => h) ?_
    have hno : ¬ thC n c u x y := fun h => h1 h.1
    rw [show tw_v n c v u yd x y = v from if_neg hno, show tw_u n c u yd x y = u from if_neg hno, show tw_y n c u yd x y = yd from if_neg hno, show sp_throw n c u yd x y = (-1) from if_neg h1] at hq
    exact w_iret rfl rfl rfl (hq _ ⟨hN, Fr.rf⟩)
  · replace h1 := pI_ne.mp h1
    refine w_blk 1 (pc' := 12) (ls' := [some (.ref 0), some (.int x), some (.int y), none]) (sk' := [.ref 0]) (st' := st) (fun _ h => h) ?_
    refine w_blk 1 (pc' := 15) (ls' := [some (.ref 0), some (.int x), some (.int y), none]) (sk' := [.ref (Int32.toNatClampNeg (st.1 0 1))]) (st' := st) (fun _ h => h) ?_
    rw [hcr]
    refine w_blk 1 (pc' := 16) (ls' := [some (.ref 0), some (.int x), some (.int y), none]) (sk' := [.int y, .ref 13]) (st' := st) (fun _ h => h) ?_
    obtain ⟨k, hk, rfl⟩ := nI_in2 (by omega) h1
    refine w_callV (As := [.ref 13, .int y]) (rest := []) rfl rfl rfl (Nat.le_of_ble_eq_true rfl) (Nat.le_of_ble_eq_true rfl) (by first | exact Or.inl ⟨rfl, rfl⟩ | exact Or.inr ⟨rfl, rfl⟩) (c_hasSpade_13 (d + 3) y st) ?_
    rw [hX.2.1]
    refine w_if_ne rfl (fun h2 => ?_) (fun h2 => ?_)
    · replace h2 := pI_ne.mp h2
      refine w_blk 3 (pc' := 29) (ls' := [some (.ref 0), some (.int (nI k)), some (.int y), none]) (sk' := [.ref 0, .ref 21]) (st' := st) (fun _ h => h) ?_
      refine w_blk 1 (pc' := 32) (ls' := [some (.ref 0), some (.int (nI k)), some (.int y), none]) (sk' := [.ref (Int32.toNatClampNeg (st.1 0 1)), .ref 21]) (st' := st) (fun _ h => h) ?_
      rw [hcr]
      refine w_blk 2 (pc' := 34) (ls' := [some (.ref 0), some (.int (nI k)), some (.int y), none]) (sk' := [.int y, .int (nI k), .ref 13, .ref 21]) (st' := st) (fun _ h => h) ?_
      obtain ⟨j, hj, rfl⟩ := nI_in2 (by omega) h2
      refine w_callV (As := [.ref 21, .ref 13, .int (nI k), .int (nI j)]) (rest := []) rfl rfl rfl (Nat.le_of_ble_eq_true rfl) (Nat.le_of_ble_eq_true rfl) (by first | exact Or.inl ⟨rfl, rfl⟩ | exact Or.inr ⟨rfl, rfl⟩) (c_canThrow_13 (d + 0) n c v u yd k j st hX hB hN hU (by omega) (by omega)) ?_
      refine w_if_ne rfl (fun h3 => ?_) (fun h3 => ?_)
      · replace h3 := pI_ne.mp h3
        refine w_blk 3 (pc' := 48) (ls' := [some (.ref 0), some (.int (nI k)), some (.int (nI j)), none]) (sk' := [.ref 0, .ref 21]) (st' := st) (fun _ h => h) ?_
        refine w_blk 1 (pc' := 51) (ls' := [some (.ref 0), some (.int (nI k)), some (.int (nI j)), none]) (sk' := [.ref (Int32.toNatClampNeg (st.1 0 1)), .ref 21]) (st' := st) (fun _ h => h) ?_
        rw [hcr]
        refine w_blk 2 (pc' := 53) (ls' := [some (.ref 0), some (.int (nI k)), some (.int (nI j)), none]) (sk' := [.int (nI j), .int (nI k), .ref 13, .ref 21]) (st' := st) (fun _ h => h) ?_
        refine w_callV (As := [.ref 21, .ref 13, .int (nI k), .int (nI j)]) (rest := []) rfl rfl rfl (Nat.le_of_ble_eq_true rfl) (Nat.le_of_ble_eq_true rfl) (by first | exact Or.inl ⟨rfl, rfl⟩ | exact Or.inr ⟨rfl, rfl⟩) (c_earthOf_13 (d + 1) n c v u yd k j st hX hB hN hU hyd (by omega) (by omega)) ?_
        refine w_blk 5 (pc' := 63) (ls' := [some (.ref 0), some (.int (nI k)), some (.int (nI j)), some (.int (nI (th_e n c yd k j)))]) (sk' := [.int (nI j), .int (nI k), .ref 21]) (st' := st) (fun _ h => h) ?_
        obtain ⟨s1, hc_2, hN_3, hf_4⟩ := c_noteThrow (d + 2) n c v u yd k j st hB hN hU hyd (by omega) (by omega)
        refine w_callV (As := [.ref 21, .int (nI k), .int (nI j)]) (rest := []) rfl rfl rfl (Nat.le_of_ble_eq_true rfl) (Nat.le_of_ble_eq_true rfl) (by first | exact Or.inl ⟨rfl, rfl⟩ | exact Or.inr ⟨rfl, rfl⟩) hc_2 ?_
        have hf_5 := Fr.trans (Fr.rf : Fr [21, 22, 23] st st) hf_4
        have hUt := th_u_bd hb0 hb1 hk hj hU
        have hybt : yd < n 2 → th_u u k j (12 + yd) < c 5 yd := fun h => by rw [th_u_out (by omega)]; exact hyb h
        have hee := th_e_le (yd := yd) hB hk hj
        have hXn := X13_fr hf_5 (by decide) hX
        have hcrn : (s1.1 0 1).toNatClampNeg = 13 := by rw [hf_5.1 0 (by decide)]; exact hcr
        refine w_blk 3 (pc' := 71) (ls' := [some (.ref 0), some (.int (nI k)), some (.int (nI j)), some (.int (nI (th_e n c yd k j)))]) (sk' := [.ref 0, .ref 21]) (st' := s1) (fun _ h => h) ?_
        refine w_blk 1 (pc' := 74) (ls' := [some (.ref 0), some (.int (nI k)), some (.int (nI j)), some (.int (nI (th_e n c yd k j)))]) (sk' := [.ref (Int32.toNatClampNeg (s1.1 0 1)), .ref 21]) (st' := s1) (fun _ h => h) ?_
        rw [hcrn]
        refine w_blk 1 (pc' := 75) (ls' := [some (.ref 0), some (.int (nI k)), some (.int (nI j)), some (.int (nI (th_e n c yd k j)))]) (sk' := [.int (nI (th_e n c yd k j)), .ref 13, .ref 21]) (st' := s1) (fun _ h => h) ?_
        obtain ⟨s6, hc_7, hN_8, hf_9⟩ := c_dig_13 (d + 2) n c v (th_u u k j) yd (th_e n c yd k j) s1 hXn hB hN_3 hUt hyd hybt (by omega)
        refine w_callV (As := [.ref 21, .ref 13, .int (nI (th_e n c yd k j))]) (rest := []) rfl rfl rfl (Nat.le_of_ble_eq_true rfl) (Nat.le_of_ble_eq_true rfl) (by first | exact Or.inl ⟨rfl, rfl⟩ | exact Or.inr ⟨rfl, rfl⟩) hc_7 ?_
        have hf_10 := Fr.trans hf_5 hf_9
        refine w_blk 1 (pc' := 79) (ls' := [some (.ref 0), some (.int (nI k)), some (.int (nI j)), some (.int (nI (th_e n c yd k j)))]) (sk' := [.int (nI (th_e n c yd k j))]) (st' := s6) (fun _ h => h) ?_
        have hyes : thC n c u (nI k) (nI j) := (thC_iff (by omega) (by omega) hk hj).mpr h3
        rw [show tw_v n c v u yd (nI k) (nI j) = dg_v n c v (th_u u k j) yd (th_e n c yd k j) by unfold tw_v; rw [if_pos hyes, nI_clamp (show k < 2 ^ 31 by omega), nI_clamp (show j < 2 ^ 31 by omega)], show tw_u n c u yd (nI k) (nI j) = dg_u n c (th_u u k j) yd (th_e n c yd k j) by unfold tw_u; rw [if_pos hyes, nI_clamp (show k < 2 ^ 31 by omega), nI_clamp (show j < 2 ^ 31 by omega)], show tw_y n c u yd (nI k) (nI j) = dg_y n c (th_u u k j) yd (th_e n c yd k j) by unfold tw_y; rw [if_pos hyes, nI_clamp (show k < 2 ^ 31 by omega), nI_clamp (show j < 2 ^ 31 by omega)], show sp_throw n c u yd (nI k) (nI j) = (nI (th_e n c yd k j)) by unfold sp_throw; rw [if_pos (nI_in3 (by omega) hk), if_pos (nI_in3 (by omega) hj), nI_clamp (show k < 2 ^ 31 by omega), nI_clamp (show j < 2 ^ 31 by omega), if_pos h3]] at hq
        exact w_iret rfl rfl rfl (hq _ ⟨hN_8, hf_10⟩)
      · replace h3 := pI_eq0.mp (Decidable.not_not.mp h3)
        refine w_blk 1 (pc' := 42) (ls' := [some (.ref 0), some (.int (nI k)), some (.int (nI j)), none]) (sk' := [.int (-2)]) (st' := st) (fun _ h => h) ?_
        have hno : ¬ thC n c u (nI k) (nI j) := fun h => h3 ((thC_iff (by omega) (by omega) hk hj).mp h)
        rw [show tw_v n c v u yd (nI k) (nI j) = v from if_neg hno, show tw_u n c u yd (nI k) (nI j) = u from if_neg hno, show tw_y n c u yd (nI k) (nI j) = yd from if_neg hno, show sp_throw n c u yd (nI k) (nI j) = (-2) from by unfold sp_throw; rw [if_pos (nI_in3 (by omega) hk), if_pos (nI_in3 (by omega) hj), nI_clamp (show k < 2 ^ 31 by omega), nI_clamp (show j < 2 ^ 31 by omega), if_neg h3]] at hq
        exact w_iret rfl rfl rfl (hq _ ⟨hN, Fr.rf⟩)
    · replace h2 := pI_eq0.mp (Decidable.not_not.mp h2)
      refine w_blk 1 (pc' := 23) (ls' := [some (.ref 0), some (.int (nI k)), some (.int y), none]) (sk' := [.int (-1)]) (st' := st) (fun _ h => h) ?_
      have hno : ¬ thC n c u (nI k) y := fun h => h2 h.2.1
      rw [show tw_v n c v u yd (nI k) y = v from if_neg hno, show tw_u n c u yd (nI k) y = u from if_neg hno, show tw_y n c u yd (nI k) y = yd from if_neg hno, show sp_throw n c u yd (nI k) y = (-1) from (if_pos (nI_in3 (by omega) hk)).trans (if_neg h2)] at hq
      exact w_iret rfl rfl rfl (hq _ ⟨hN, Fr.rf⟩)
