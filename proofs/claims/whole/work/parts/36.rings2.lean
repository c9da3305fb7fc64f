/-! RINGS: the walks -/
def PXr (st : mSt) (F : Nat → Nat) : Option Nat → Prop
  | none => st.1 42 0 = -1
  | some b => st.1 42 0 = nI (F b) ∧ st.1 42 1 = nI (b / 4096) ∧ st.1 42 2 = nI (b / 64 % 64) ∧ st.1 42 3 = nI (b % 64)
def PMr (st : mSt) : Option Nat → Prop
  | none => True
  | some b => st.1 77 0 = nI (b / 4096) ∧ st.1 77 1 = nI (b / 64 % 64) ∧ st.1 77 2 = nI (b % 64)
theorem PXr_e {st st1 : mSt} {F : Nat → Nat} {T : Option Nat} (e : st1.1 42 = st.1 42) (h : PXr st F T) : PXr st1 F T := by
  rcases T with _ | b
  · show st1.1 42 0 = -1
    rw [e]
    exact h
  · show st1.1 42 0 = _ ∧ st1.1 42 1 = _ ∧ st1.1 42 2 = _ ∧ st1.1 42 3 = _
    rw [e]
    exact h
theorem PMr_e {st st1 : mSt} {T : Option Nat} (e : st1.1 77 = st.1 77) (h : PMr st T) : PMr st1 T := by
  rcases T with _ | b
  · exact True.intro
  · show st1.1 77 0 = _ ∧ st1.1 77 1 = _ ∧ st1.1 77 2 = _
    rw [e]
    exact h
theorem c_quotZ (d a b : Nat) (st : mSt) (ha : a < 2 ^ 31) (hb : b < 2 ^ 31) : mMC mT (d + 1) 128 [.int (nI a), .int (nI b)] st (some (.int (nI (a / b)))) st := by
  by_cases h : 0 < b
  · exact c_quotK d a b st ha h hb
  · obtain rfl : 0 = b := by omega
    have := c_quot d (nI a) (nI 0) st
    rw [if_pos (show nI 0 < 1 by decide)] at this
    rw [Nat.div_zero]
    exact this
def LLr (n g : Nat) : List Nat := if n = 0 then [0] else xL (2 ^ n - 1) g (2 ^ (n - 1))
def RGs (n : Nat → Nat) (c : Nat → Nat → Nat) (g t w r : Int32) : Prop := if (1 ≤ g ∧ g ≤ 3) ∧ (1 ≤ t ∧ t ≤ 999) ∧ (0 ≤ w ∧ w ≤ nI (n 0)) then ∃ b, SP (LLr (n 0) g.toNatClampNeg) (kyF (wgt n c t.toNatClampNeg)) (some b) ∧ r = (if w = 0 then nI (kyF (wgt n c t.toNatClampNeg) b) else nI (anX b (w.toNatClampNeg - 1))) else r = -1
theorem RGs_un {n : Nat → Nat} {c : Nat → Nat → Nat} {g t w r r' : Int32} (h : RGs n c g t w r) (h' : RGs n c g t w r') : r = r' := by
  unfold RGs at h h'
  split at h
  · rename_i hc
    rw [if_pos hc] at h'
    obtain ⟨b, h1, rfl⟩ := h
    obtain ⟨b', h2, rfl⟩ := h'
    rw [SP_un h1 h2 (fun _ hk => hk) (fun _ hk => hk)]
  · rename_i hc
    rw [if_neg hc] at h'
    rw [h, h']
set_option maxRecDepth 20000 in
/-- weigh(crew, b, t) -/
theorem c_weigh_5 (d : Nat) (n : Nat → Nat) (c : Nat → Nat → Nat) (t b : Nat) (st : mSt) (hX : X5 st n c) (hB : CB n c) (ht : t ≤ 999) (hb : b < 64) : mMC mT (d + 2) 56 [.ref 5, .int (nI b), .int (nI t)] st (some (.int (nI (wgt n c t b)))) st := by
  refine mI_X6_weigh (d := d + 1) (Nat.le_of_ble_eq_true rfl) (fun Q hq => ?_)
  show mW (mMC mT (d + 1)) (0, fun _ => 0) (mAtL P_X6_weigh) (some .int) Q 0 [some (.ref 5), some (.int (nI b)), some (.int (nI t)), none, none, none] [] st
  obtain ⟨hb0, hb1, hb2, hbd, hbs, hby⟩ := id hB
  have hsl : ∀ k, k ≤ n 0 → slow (c 1) b k ≤ 9 := fun k hk => slow_le k (fun i hi => (hbd i (by omega)).2.2.2.1)
  have hst : ∀ k, k ≤ n 0 → str (c 0) b k ≤ 9 * k := fun k hk => str_le k (fun i hi => (hbd i (by omega)).2.1)
  refine w_blk 6 (pc' := 8) (ls' := [some (.ref 5), some (.int (nI b)), some (.int (nI t)), some (.int 0), some (.int 0), some (.int 0)]) (sk' := []) (st' := st) (fun _ h => h) ?_
  have key : ∀ (m k : Nat), k + m = n 0 → mW (mMC mT (d + 1)) (0, fun _ => 0) (mAtL P_X6_weigh) (some .int) Q 8 [some (.ref 5), some (.int (nI b)), some (.int (nI t)), some (.int (nI (slow (c 1) b k))), some (.int (nI (str (c 0) b k))), some (.int (nI k))] [] st := by
    intro m
    induction m with
    | zero =>
      intro k hk
      obtain rfl : n 0 = k := by omega
      have e1 := hsl (n 0) (Nat.le_refl _)
      have e2 := hst (n 0) (Nat.le_refl _)
      refine w_blk 3 (pc' := 14) (ls' := [some (.ref 5), some (.int (nI b)), some (.int (nI t)), some (.int (nI (slow (c 1) b (n 0)))), some (.int (nI (str (c 0) b (n 0)))), some (.int (nI (n 0)))]) (sk' := [.int (st.1 5 0), .int (nI (n 0))]) (st' := st) (fun _ h => h) ?_
      rw [hX.1]
      refine w_cmp_ge rfl (fun _ => ?_) (fun hno => absurd (Int32.le_refl _) hno)
      refine w_blk 2 (pc' := 62) (ls' := [some (.ref 5), some (.int (nI b)), some (.int (nI t)), some (.int (nI (slow (c 1) b (n 0)))), some (.int (nI (str (c 0) b (n 0)))), some (.int (nI (n 0)))]) (sk' := [.int (nI (slow (c 1) b (n 0))), .int (nI t)]) (st' := st) (fun _ h => h) ?_
      refine w_callS (As := [.int (nI t), .int (nI (slow (c 1) b (n 0)))]) (rest := []) rfl rfl rfl (Nat.le_of_ble_eq_true rfl) (Nat.le_of_ble_eq_true rfl) (c_quotZ (d + 0) t (slow (c 1) b (n 0)) st (by omega) (by omega)) ?_
      refine w_blk 2 (pc' := 68) (ls' := [some (.ref 5), some (.int (nI b)), some (.int (nI t)), some (.int (nI (slow (c 1) b (n 0)))), some (.int (nI (str (c 0) b (n 0)))), some (.int (nI (n 0)))]) (sk' := [.int ((nI (t / (slow (c 1) b (n 0)))) * (nI (str (c 0) b (n 0))))]) (st' := st) (fun _ h => h) ?_
      rw [show ((nI (t / (slow (c 1) b (n 0)))) * (nI (str (c 0) b (n 0)))) = nI ((t / (slow (c 1) b (n 0))) * (str (c 0) b (n 0))) from pk_mul (t / (slow (c 1) b (n 0))) (str (c 0) b (n 0))]
      exact w_iret rfl rfl rfl hq
    | succ m ih =>
      intro k hk
      have hk2 : k < n 0 := by omega
      have hsk := hsl k (by omega)
      have htk := hst k (by omega)
      have hpk := hbd k hk2
      refine w_blk 3 (pc' := 14) (ls' := [some (.ref 5), some (.int (nI b)), some (.int (nI t)), some (.int (nI (slow (c 1) b k))), some (.int (nI (str (c 0) b k))), some (.int (nI k))]) (sk' := [.int (st.1 5 0), .int (nI k)]) (st' := st) (fun _ h => h) ?_
      rw [hX.1]
      refine w_cmp_ge rfl (fun hno => absurd hno (nI_ge hk2 (by omega))) (fun _ => ?_)
      refine w_blk 2 (pc' := 20) (ls' := [some (.ref 5), some (.int (nI b)), some (.int (nI t)), some (.int (nI (slow (c 1) b k))), some (.int (nI (str (c 0) b k))), some (.int (nI k))]) (sk' := [.int (nI k), .int (nI b)]) (st' := st) (fun _ h => h) ?_
      refine w_callS (As := [.int (nI b), .int (nI k)]) (rest := []) rfl rfl rfl (Nat.le_of_ble_eq_true rfl) (Nat.le_of_ble_eq_true rfl) (c_hasBit (d + 0) (nI b) (nI k) st) ?_
      rw [show (pI (bitP (nI b) (nI k))) = pI (Nat.testBit b k = true) from pI_cong (bitP_nI (n := b) (k := k) (by omega) (by omega))]
      refine w_if_eq rfl (fun h1 => ?_) (fun h1 => ?_)
      · replace h1 := pI_eq0.mp h1
        refine w_blk 1 (pc' := 57) (ls' := [some (.ref 5), some (.int (nI b)), some (.int (nI t)), some (.int (nI (slow (c 1) b k))), some (.int (nI (str (c 0) b k))), some (.int ((nI k) + 1))]) (sk' := []) (st' := st) (fun _ h => h) ?_
        rw [show ((nI k) + 1) = nI (k + 1) from nI_add k 1]
        refine w_blk 1 (pc' := 8) (ls' := [some (.ref 5), some (.int (nI b)), some (.int (nI t)), some (.int (nI (slow (c 1) b k))), some (.int (nI (str (c 0) b k))), some (.int (nI (k + 1)))]) (sk' := []) (st' := st) (fun _ h => h) ?_
        exact (by have hh := ih (k + 1) (by omega); rw [show slow (c 1) b (k + 1) = slow (c 1) b k from if_neg h1, show str (c 0) b (k + 1) = str (c 0) b k from if_neg h1] at hh; exact hh)
      · replace h1 := pI_ne.mp h1
        refine w_blk 4 (pc' := 33) (ls' := [some (.ref 5), some (.int (nI b)), some (.int (nI t)), some (.int (nI (slow (c 1) b k))), some (.int (nI (str (c 0) b k))), some (.int (nI k))]) (sk' := [.int (nI k), .ref 7, .int (nI (slow (c 1) b k))]) (st' := st) (fun _ h => h) ?_
        refine w_callS (As := [.ref 7, .int (nI k)]) (rest := [.int (nI (slow (c 1) b k))]) rfl rfl rfl (Nat.le_of_ble_eq_true rfl) (Nat.le_of_ble_eq_true rfl) (c_cellK (d + 0) 7 6 k st (by omega) (by decide) rfl) ?_
        rw [(hX.2.2.2.1 k (by omega)).2.1]
        refine w_callS (As := [.int (nI (slow (c 1) b k)), .int (nI (c 1 k))]) (rest := []) rfl rfl rfl (Nat.le_of_ble_eq_true rfl) (Nat.le_of_ble_eq_true rfl) (c_maxK (d + 0) (slow (c 1) b k) (c 1 k) st (by omega) (by omega)) ?_
        refine w_blk 5 (pc' := 48) (ls' := [some (.ref 5), some (.int (nI b)), some (.int (nI t)), some (.int (nI (max (slow (c 1) b k) (c 1 k)))), some (.int (nI (str (c 0) b k))), some (.int (nI k))]) (sk' := [.int (nI k), .ref 6, .int (nI (str (c 0) b k))]) (st' := st) (fun _ h => h) ?_
        refine w_callS (As := [.ref 6, .int (nI k)]) (rest := [.int (nI (str (c 0) b k))]) rfl rfl rfl (Nat.le_of_ble_eq_true rfl) (Nat.le_of_ble_eq_true rfl) (c_cellK (d + 0) 6 6 k st (by omega) (by decide) rfl) ?_
        rw [(hX.2.2.2.1 k (by omega)).1]
        refine w_blk 1 (pc' := 52) (ls' := [some (.ref 5), some (.int (nI b)), some (.int (nI t)), some (.int (nI (max (slow (c 1) b k) (c 1 k)))), some (.int (nI (str (c 0) b k))), some (.int (nI k))]) (sk' := [.int ((nI (str (c 0) b k)) + (nI (c 0 k)))]) (st' := st) (fun _ h => h) ?_
        rw [show ((nI (str (c 0) b k)) + (nI (c 0 k))) = nI ((str (c 0) b k) + (c 0 k)) from nI_add (str (c 0) b k) (c 0 k)]
        refine w_blk 2 (pc' := 57) (ls' := [some (.ref 5), some (.int (nI b)), some (.int (nI t)), some (.int (nI (max (slow (c 1) b k) (c 1 k)))), some (.int (nI ((str (c 0) b k) + (c 0 k)))), some (.int ((nI k) + 1))]) (sk' := []) (st' := st) (fun _ h => h) ?_
        rw [show ((nI k) + 1) = nI (k + 1) from nI_add k 1]
        refine w_blk 1 (pc' := 8) (ls' := [some (.ref 5), some (.int (nI b)), some (.int (nI t)), some (.int (nI (max (slow (c 1) b k) (c 1 k)))), some (.int (nI ((str (c 0) b k) + (c 0 k)))), some (.int (nI (k + 1)))]) (sk' := []) (st' := st) (fun _ h => h) ?_
        exact (by have hh := ih (k + 1) (by omega); rw [show slow (c 1) b (k + 1) = max (slow (c 1) b k) (c 1 k) from if_pos h1, show str (c 0) b (k + 1) = (str (c 0) b k) + (c 0 k) from if_pos h1] at hh; exact hh)
  exact key (n 0 - 0) 0 (by omega)
set_option maxRecDepth 20000 in
/-- weigh(crew, b, t) -/
theorem c_weigh_13 (d : Nat) (n : Nat → Nat) (c : Nat → Nat → Nat) (t b : Nat) (st : mSt) (hX : X13 st n c) (hB : CB n c) (ht : t ≤ 999) (hb : b < 64) : mMC mT (d + 2) 56 [.ref 13, .int (nI b), .int (nI t)] st (some (.int (nI (wgt n c t b)))) st := by
  refine mI_X6_weigh (d := d + 1) (Nat.le_of_ble_eq_true rfl) (fun Q hq => ?_)
  show mW (mMC mT (d + 1)) (0, fun _ => 0) (mAtL P_X6_weigh) (some .int) Q 0 [some (.ref 13), some (.int (nI b)), some (.int (nI t)), none, none, none] [] st
  obtain ⟨hb0, hb1, hb2, hbd, hbs, hby⟩ := id hB
  have hsl : ∀ k, k ≤ n 0 → slow (c 1) b k ≤ 9 := fun k hk => slow_le k (fun i hi => (hbd i (by omega)).2.2.2.1)
  have hst : ∀ k, k ≤ n 0 → str (c 0) b k ≤ 9 * k := fun k hk => str_le k (fun i hi => (hbd i (by omega)).2.1)
  refine w_blk 6 (pc' := 8) (ls' := [some (.ref 13), some (.int (nI b)), some (.int (nI t)), some (.int 0), some (.int 0), some (.int 0)]) (sk' := []) (st' := st) (fun _ h => h) ?_
  have key : ∀ (m k : Nat), k + m = n 0 → mW (mMC mT (d + 1)) (0, fun _ => 0) (mAtL P_X6_weigh) (some .int) Q 8 [some (.ref 13), some (.int (nI b)), some (.int (nI t)), some (.int (nI (slow (c 1) b k))), some (.int (nI (str (c 0) b k))), some (.int (nI k))] [] st := by
    intro m
    induction m with
    | zero =>
      intro k hk
      obtain rfl : n 0 = k := by omega
      have e1 := hsl (n 0) (Nat.le_refl _)
      have e2 := hst (n 0) (Nat.le_refl _)
      refine w_blk 3 (pc' := 14) (ls' := [some (.ref 13), some (.int (nI b)), some (.int (nI t)), some (.int (nI (slow (c 1) b (n 0)))), some (.int (nI (str (c 0) b (n 0)))), some (.int (nI (n 0)))]) (sk' := [.int (st.1 13 0), .int (nI (n 0))]) (st' := st) (fun _ h => h) ?_
      rw [hX.1]
      refine w_cmp_ge rfl (fun _ => ?_) (fun hno => absurd (Int32.le_refl _) hno)
      refine w_blk 2 (pc' := 62) (ls' := [some (.ref 13), some (.int (nI b)), some (.int (nI t)), some (.int (nI (slow (c 1) b (n 0)))), some (.int (nI (str (c 0) b (n 0)))), some (.int (nI (n 0)))]) (sk' := [.int (nI (slow (c 1) b (n 0))), .int (nI t)]) (st' := st) (fun _ h => h) ?_
      refine w_callS (As := [.int (nI t), .int (nI (slow (c 1) b (n 0)))]) (rest := []) rfl rfl rfl (Nat.le_of_ble_eq_true rfl) (Nat.le_of_ble_eq_true rfl) (c_quotZ (d + 0) t (slow (c 1) b (n 0)) st (by omega) (by omega)) ?_
      refine w_blk 2 (pc' := 68) (ls' := [some (.ref 13), some (.int (nI b)), some (.int (nI t)), some (.int (nI (slow (c 1) b (n 0)))), some (.int (nI (str (c 0) b (n 0)))), some (.int (nI (n 0)))]) (sk' := [.int ((nI (t / (slow (c 1) b (n 0)))) * (nI (str (c 0) b (n 0))))]) (st' := st) (fun _ h => h) ?_
      rw [show ((nI (t / (slow (c 1) b (n 0)))) * (nI (str (c 0) b (n 0)))) = nI ((t / (slow (c 1) b (n 0))) * (str (c 0) b (n 0))) from pk_mul (t / (slow (c 1) b (n 0))) (str (c 0) b (n 0))]
      exact w_iret rfl rfl rfl hq
    | succ m ih =>
      intro k hk
      have hk2 : k < n 0 := by omega
      have hsk := hsl k (by omega)
      have htk := hst k (by omega)
      have hpk := hbd k hk2
      refine w_blk 3 (pc' := 14) (ls' := [some (.ref 13), some (.int (nI b)), some (.int (nI t)), some (.int (nI (slow (c 1) b k))), some (.int (nI (str (c 0) b k))), some (.int (nI k))]) (sk' := [.int (st.1 13 0), .int (nI k)]) (st' := st) (fun _ h => h) ?_
      rw [hX.1]
      refine w_cmp_ge rfl (fun hno => absurd hno (nI_ge hk2 (by omega))) (fun _ => ?_)
      refine w_blk 2 (pc' := 20) (ls' := [some (.ref 13), some (.int (nI b)), some (.int (nI t)), some (.int (nI (slow (c 1) b k))), some (.int (nI (str (c 0) b k))), some (.int (nI k))]) (sk' := [.int (nI k), .int (nI b)]) (st' := st) (fun _ h => h) ?_
      refine w_callS (As := [.int (nI b), .int (nI k)]) (rest := []) rfl rfl rfl (Nat.le_of_ble_eq_true rfl) (Nat.le_of_ble_eq_true rfl) (c_hasBit (d + 0) (nI b) (nI k) st) ?_
      rw [show (pI (bitP (nI b) (nI k))) = pI (Nat.testBit b k = true) from pI_cong (bitP_nI (n := b) (k := k) (by omega) (by omega))]
      refine w_if_eq rfl (fun h1 => ?_) (fun h1 => ?_)
      · replace h1 := pI_eq0.mp h1
        refine w_blk 1 (pc' := 57) (ls' := [some (.ref 13), some (.int (nI b)), some (.int (nI t)), some (.int (nI (slow (c 1) b k))), some (.int (nI (str (c 0) b k))), some (.int ((nI k) + 1))]) (sk' := []) (st' := st) (fun _ h => h) ?_
        rw [show ((nI k) + 1) = nI (k + 1) from nI_add k 1]
        refine w_blk 1 (pc' := 8) (ls' := [some (.ref 13), some (.int (nI b)), some (.int (nI t)), some (.int (nI (slow (c 1) b k))), some (.int (nI (str (c 0) b k))), some (.int (nI (k + 1)))]) (sk' := []) (st' := st) (fun _ h => h) ?_
        exact (by have hh := ih (k + 1) (by omega); rw [show slow (c 1) b (k + 1) = slow (c 1) b k from if_neg h1, show str (c 0) b (k + 1) = str (c 0) b k from if_neg h1] at hh; exact hh)
      · replace h1 := pI_ne.mp h1
        refine w_blk 4 (pc' := 33) (ls' := [some (.ref 13), some (.int (nI b)), some (.int (nI t)), some (.int (nI (slow (c 1) b k))), some (.int (nI (str (c 0) b k))), some (.int (nI k))]) (sk' := [.int (nI k), .ref 15, .int (nI (slow (c 1) b k))]) (st' := st) (fun _ h => h) ?_
        refine w_callS (As := [.ref 15, .int (nI k)]) (rest := [.int (nI (slow (c 1) b k))]) rfl rfl rfl (Nat.le_of_ble_eq_true rfl) (Nat.le_of_ble_eq_true rfl) (c_cellK (d + 0) 15 6 k st (by omega) (by decide) rfl) ?_
        rw [(hX.2.2.2.1 k (by omega)).2.1]
        refine w_callS (As := [.int (nI (slow (c 1) b k)), .int (nI (c 1 k))]) (rest := []) rfl rfl rfl (Nat.le_of_ble_eq_true rfl) (Nat.le_of_ble_eq_true rfl) (c_maxK (d + 0) (slow (c 1) b k) (c 1 k) st (by omega) (by omega)) ?_
        refine w_blk 5 (pc' := 48) (ls' := [some (.ref 13), some (.int (nI b)), some (.int (nI t)), some (.int (nI (max (slow (c 1) b k) (c 1 k)))), some (.int (nI (str (c 0) b k))), some (.int (nI k))]) (sk' := [.int (nI k), .ref 14, .int (nI (str (c 0) b k))]) (st' := st) (fun _ h => h) ?_
        refine w_callS (As := [.ref 14, .int (nI k)]) (rest := [.int (nI (str (c 0) b k))]) rfl rfl rfl (Nat.le_of_ble_eq_true rfl) (Nat.le_of_ble_eq_true rfl) (c_cellK (d + 0) 14 6 k st (by omega) (by decide) rfl) ?_
        rw [(hX.2.2.2.1 k (by omega)).1]
        refine w_blk 1 (pc' := 52) (ls' := [some (.ref 13), some (.int (nI b)), some (.int (nI t)), some (.int (nI (max (slow (c 1) b k) (c 1 k)))), some (.int (nI (str (c 0) b k))), some (.int (nI k))]) (sk' := [.int ((nI (str (c 0) b k)) + (nI (c 0 k)))]) (st' := st) (fun _ h => h) ?_
        rw [show ((nI (str (c 0) b k)) + (nI (c 0 k))) = nI ((str (c 0) b k) + (c 0 k)) from nI_add (str (c 0) b k) (c 0 k)]
        refine w_blk 2 (pc' := 57) (ls' := [some (.ref 13), some (.int (nI b)), some (.int (nI t)), some (.int (nI (max (slow (c 1) b k) (c 1 k)))), some (.int (nI ((str (c 0) b k) + (c 0 k)))), some (.int ((nI k) + 1))]) (sk' := []) (st' := st) (fun _ h => h) ?_
        rw [show ((nI k) + 1) = nI (k + 1) from nI_add k 1]
        refine w_blk 1 (pc' := 8) (ls' := [some (.ref 13), some (.int (nI b)), some (.int (nI t)), some (.int (nI (max (slow (c 1) b k) (c 1 k)))), some (.int (nI ((str (c 0) b k) + (c 0 k)))), some (.int (nI (k + 1)))]) (sk' := []) (st' := st) (fun _ h => h) ?_
        exact (by have hh := ih (k + 1) (by omega); rw [show slow (c 1) b (k + 1) = max (slow (c 1) b k) (c 1 k) from if_pos h1, show str (c 0) b (k + 1) = (str (c 0) b k) + (c 0 k) from if_pos h1] at hh; exact hh)
  exact key (n 0 - 0) 0 (by omega)
set_option maxRecDepth 20000 in
/-- offer -/
theorem c_offer (d : Nat) (A : Nat) (W : Nat → Nat) (T : Option Nat) (a x y : Nat) (st : mSt) (hW : ∀ j, j < A → st.1 43 j = nI (W j)) (hWb : ∀ j, W j ≤ 53946) (hA : A ≤ 64) (ha : a < A) (hx : x < A) (hy : y < A) (hT : PXr st (kyF W) T) : ∃ (s : mSt), mMC mT (d + 2) 55 [.ref 42, .int (nI a), .int (nI x), .int (nI y)] st (none) s ∧ PXr s (kyF W) (stX (kyF W) (a * 4096 + x * 64 + y) T) ∧ Fr [42] st s := by
  suffices H : ∀ Q : Option Value → mSt → Prop, (∀ (s : mSt), (PXr s (kyF W) (stX (kyF W) (a * 4096 + x * 64 + y) T) ∧ Fr [42] st s) → Q (none) s) → mW (mMC mT (d + 1)) (0, fun _ => 0) (mAtL P_X6_offer) none Q 0 [some (.ref 42), some (.int (nI a)), some (.int (nI x)), some (.int (nI y)), none] [] st by
    obtain ⟨_, _, ⟨s, rfl, rfl, hp⟩, hw⟩ := mW_ex (H (fun vv tt => ∃ (s : mSt),  vv = none ∧ s = tt ∧ PXr s (kyF W) (stX (kyF W) (a * 4096 + x * 64 + y) T) ∧ Fr [42] st s) (fun s hp => ⟨s, rfl, rfl, hp⟩))
    exact ⟨s, mI_X6_offer (d := d + 1) (Nat.le_of_ble_eq_true rfl) hw, hp⟩
  intro Q hq
  have hk : kyF W (a * 4096 + x * 64 + y) = W a + W x + W y := by unfold kyF; rw [ky_a (by omega) (by omega), ky_b (by omega) (by omega), ky_c (by omega)]
  have wa := hWb a
  have wx := hWb x
  have wy := hWb y
  rcases T with _ | b
  · refine w_blk 3 (pc' := 5) (ls' := [some (.ref 42), some (.int (nI a)), some (.int (nI x)), some (.int (nI y)), none]) (sk' := [.int (nI a), .ref 43]) (st' := st) (fun _ h => h) ?_
    refine w_callS (As := [.ref 43, .int (nI a)]) (rest := []) rfl rfl rfl (Nat.le_of_ble_eq_true rfl) (Nat.le_of_ble_eq_true rfl) (c_cellK (d + 0) 43 64 a st (by omega) (by decide) rfl) ?_
    rw [hW a (by omega)]
    refine w_blk 3 (pc' := 13) (ls' := [some (.ref 42), some (.int (nI a)), some (.int (nI x)), some (.int (nI y)), none]) (sk' := [.int (nI x), .ref 43, .int (nI (W a))]) (st' := st) (fun _ h => h) ?_
    refine w_callS (As := [.ref 43, .int (nI x)]) (rest := [.int (nI (W a))]) rfl rfl rfl (Nat.le_of_ble_eq_true rfl) (Nat.le_of_ble_eq_true rfl) (c_cellK (d + 0) 43 64 x st (by omega) (by decide) rfl) ?_
    rw [hW x (by omega)]
    refine w_blk 1 (pc' := 17) (ls' := [some (.ref 42), some (.int (nI a)), some (.int (nI x)), some (.int (nI y)), none]) (sk' := [.int ((nI (W a)) + (nI (W x)))]) (st' := st) (fun _ h => h) ?_
    rw [show ((nI (W a)) + (nI (W x))) = nI ((W a) + (W x)) from nI_add (W a) (W x)]
    refine w_blk 3 (pc' := 22) (ls' := [some (.ref 42), some (.int (nI a)), some (.int (nI x)), some (.int (nI y)), none]) (sk' := [.int (nI y), .ref 43, .int (nI ((W a) + (W x)))]) (st' := st) (fun _ h => h) ?_
    refine w_callS (As := [.ref 43, .int (nI y)]) (rest := [.int (nI ((W a) + (W x)))]) rfl rfl rfl (Nat.le_of_ble_eq_true rfl) (Nat.le_of_ble_eq_true rfl) (c_cellK (d + 0) 43 64 y st (by omega) (by decide) rfl) ?_
    rw [hW y (by omega)]
    refine w_blk 1 (pc' := 26) (ls' := [some (.ref 42), some (.int (nI a)), some (.int (nI x)), some (.int (nI y)), none]) (sk' := [.int ((nI ((W a) + (W x))) + (nI (W y)))]) (st' := st) (fun _ h => h) ?_
    rw [show ((nI ((W a) + (W x))) + (nI (W y))) = nI (((W a) + (W x)) + (W y)) from nI_add ((W a) + (W x)) (W y)]
    refine w_blk 4 (pc' := 34) (ls' := [some (.ref 42), some (.int (nI a)), some (.int (nI x)), some (.int (nI y)), some (.int (nI (((W a) + (W x)) + (W y))))]) (sk' := [.int (st.1 42 0), .int (nI (((W a) + (W x)) + (W y)))]) (st' := st) (fun _ h => h) ?_
    rw [show st.1 42 0 = -1 from hT]
    refine w_cmp_le rfl (fun hno => absurd hno (fun hh => by rw [Int32.le_iff_toInt_le, nI_toInt (by omega), show (-1 : Int32).toInt = -1 from rfl] at hh; omega)) (fun _ => ?_)
    refine w_blk 12 (pc' := 58) (ls' := [some (.ref 42), some (.int (nI a)), some (.int (nI x)), some (.int (nI y)), some (.int (nI (((W a) + (W x)) + (W y))))]) (sk' := []) (st' := ((mU (mU (mU (mU st.1 42 0 (nI (((W a) + (W x)) + (W y)))) 42 1 (nI a)) 42 2 (nI x)) 42 3 (nI y)), st.2)) (fun _ h => h) ?_
    exact w_vret rfl rfl (hq _ ⟨⟨congrArg nI hk.symm, congrArg nI (ky_a (by omega) (by omega)).symm, congrArg nI (ky_b (by omega) (by omega)).symm, congrArg nI (ky_c (by omega)).symm⟩, (Fr.trans (Fr.trans (Fr.trans (Fr.trans Fr.rf (Fr.mU (by decide))) (Fr.mU (by decide))) (Fr.mU (by decide))) (Fr.mU (by decide)))⟩)
  · have wb : kyF W b ≤ 161838 := by have h1 := hWb (b / 4096); have h2 := hWb (b / 64 % 64); have h3 := hWb (b % 64); unfold kyF; omega
    refine w_blk 3 (pc' := 5) (ls' := [some (.ref 42), some (.int (nI a)), some (.int (nI x)), some (.int (nI y)), none]) (sk' := [.int (nI a), .ref 43]) (st' := st) (fun _ h => h) ?_
    refine w_callS (As := [.ref 43, .int (nI a)]) (rest := []) rfl rfl rfl (Nat.le_of_ble_eq_true rfl) (Nat.le_of_ble_eq_true rfl) (c_cellK (d + 0) 43 64 a st (by omega) (by decide) rfl) ?_
    rw [hW a (by omega)]
    refine w_blk 3 (pc' := 13) (ls' := [some (.ref 42), some (.int (nI a)), some (.int (nI x)), some (.int (nI y)), none]) (sk' := [.int (nI x), .ref 43, .int (nI (W a))]) (st' := st) (fun _ h => h) ?_
    refine w_callS (As := [.ref 43, .int (nI x)]) (rest := [.int (nI (W a))]) rfl rfl rfl (Nat.le_of_ble_eq_true rfl) (Nat.le_of_ble_eq_true rfl) (c_cellK (d + 0) 43 64 x st (by omega) (by decide) rfl) ?_
    rw [hW x (by omega)]
    refine w_blk 1 (pc' := 17) (ls' := [some (.ref 42), some (.int (nI a)), some (.int (nI x)), some (.int (nI y)), none]) (sk' := [.int ((nI (W a)) + (nI (W x)))]) (st' := st) (fun _ h => h) ?_
    rw [show ((nI (W a)) + (nI (W x))) = nI ((W a) + (W x)) from nI_add (W a) (W x)]
    refine w_blk 3 (pc' := 22) (ls' := [some (.ref 42), some (.int (nI a)), some (.int (nI x)), some (.int (nI y)), none]) (sk' := [.int (nI y), .ref 43, .int (nI ((W a) + (W x)))]) (st' := st) (fun _ h => h) ?_
    refine w_callS (As := [.ref 43, .int (nI y)]) (rest := [.int (nI ((W a) + (W x)))]) rfl rfl rfl (Nat.le_of_ble_eq_true rfl) (Nat.le_of_ble_eq_true rfl) (c_cellK (d + 0) 43 64 y st (by omega) (by decide) rfl) ?_
    rw [hW y (by omega)]
    refine w_blk 1 (pc' := 26) (ls' := [some (.ref 42), some (.int (nI a)), some (.int (nI x)), some (.int (nI y)), none]) (sk' := [.int ((nI ((W a) + (W x))) + (nI (W y)))]) (st' := st) (fun _ h => h) ?_
    rw [show ((nI ((W a) + (W x))) + (nI (W y))) = nI (((W a) + (W x)) + (W y)) from nI_add ((W a) + (W x)) (W y)]
    refine w_blk 4 (pc' := 34) (ls' := [some (.ref 42), some (.int (nI a)), some (.int (nI x)), some (.int (nI y)), some (.int (nI (((W a) + (W x)) + (W y))))]) (sk' := [.int (st.1 42 0), .int (nI (((W a) + (W x)) + (W y)))]) (st' := st) (fun _ h => h) ?_
    rw [hT.1]
    refine w_cmp_le rfl (fun h1 => ?_) (fun h1 => ?_)
    · replace h1 : ((W a) + (W x)) + (W y) ≤ kyF W b := (nI_leI (a := (((W a) + (W x)) + (W y))) (b := (kyF W b)) (by omega) (by omega)).mp h1
      exact w_vret rfl rfl (hq st (by rw [show stX (kyF W) (a * 4096 + x * 64 + y) (some b) = some b from if_neg (by omega)]; exact ⟨hT, Fr.rf⟩))
    · replace h1 : ¬ (((W a) + (W x)) + (W y) ≤ kyF W b) := fun hh => h1 ((nI_leI (a := (((W a) + (W x)) + (W y))) (b := (kyF W b)) (by omega) (by omega)).mpr hh)
      refine w_blk 12 (pc' := 58) (ls' := [some (.ref 42), some (.int (nI a)), some (.int (nI x)), some (.int (nI y)), some (.int (nI (((W a) + (W x)) + (W y))))]) (sk' := []) (st' := ((mU (mU (mU (mU st.1 42 0 (nI (((W a) + (W x)) + (W y)))) 42 1 (nI a)) 42 2 (nI x)) 42 3 (nI y)), st.2)) (fun _ h => h) ?_
      exact w_vret rfl rfl (hq _ (by rw [show stX (kyF W) (a * 4096 + x * 64 + y) (some b) = some (a * 4096 + x * 64 + y) from if_pos (by omega)]; exact ⟨⟨congrArg nI hk.symm, congrArg nI (ky_a (by omega) (by omega)).symm, congrArg nI (ky_b (by omega) (by omega)).symm, congrArg nI (ky_c (by omega)).symm⟩, (Fr.trans (Fr.trans (Fr.trans (Fr.trans Fr.rf (Fr.mU (by decide))) (Fr.mU (by decide))) (Fr.mU (by decide))) (Fr.mU (by decide)))⟩))
set_option maxRecDepth 20000 in
/-- partRest -/
theorem c_partRest (d : Nat) (A : Nat) (W : Nat → Nat) (T : Option Nat) (L : List Nat) (ring rest : Nat) (st : mSt) (hW : ∀ j, j < A → st.1 43 j = nI (W j)) (hWb : ∀ j, W j ≤ 53946) (hA : A ≤ 64) (hr : ring < A) (hs : rest < A) (hs0 : 0 < rest) (hL : ∀ x, x ∈ L → x < ring * 4096) (hT : PXr st (kyF W) T) (hSP : SP L (kyF W) T) : ∃ (T1 : Option Nat) (s : mSt), mMC mT (d + 3) 54 [.ref 42, .int (nI ring), .int (nI rest)] st (none) s ∧ PXr s (kyF W) T1 ∧ SP (L ++ jL ring rest (low rest) (rest - low rest + 1)) (kyF W) T1 ∧ Fr [42] st s := by
  suffices H : ∀ Q : Option Value → mSt → Prop, (∀ (T1 : Option Nat) (s : mSt), (PXr s (kyF W) T1 ∧ SP (L ++ jL ring rest (low rest) (rest - low rest + 1)) (kyF W) T1 ∧ Fr [42] st s) → Q (none) s) → mW (mMC mT (d + 2)) (0, fun _ => 0) (mAtL P_X6_partRest) none Q 0 [some (.ref 42), some (.int (nI ring)), some (.int (nI rest)), none, none] [] st by
    obtain ⟨_, _, ⟨T1, s, rfl, rfl, hp⟩, hw⟩ := mW_ex (H (fun vv tt => ∃ (T1 : Option Nat) (s : mSt),  vv = none ∧ s = tt ∧ PXr s (kyF W) T1 ∧ SP (L ++ jL ring rest (low rest) (rest - low rest + 1)) (kyF W) T1 ∧ Fr [42] st s) (fun T1 s hp => ⟨T1, s, rfl, rfl, hp⟩))
    exact ⟨T1, s, mI_X6_partRest (d := d + 2) (Nat.le_of_ble_eq_true rfl) hw, hp⟩
  intro Q hq
  obtain ⟨lw1, lw2, lw3⟩ := low64 rest (by omega)
  have lw4 := lw3 hs0
  refine w_blk 4 (pc' := 4) (ls' := [some (.ref 42), some (.int (nI ring)), some (.int (nI rest)), none, none]) (sk' := [.int ((nI rest) &&& (-(nI rest)))]) (st' := st) (fun _ h => h) ?_
  rw [lw1]
  refine w_blk 3 (pc' := 8) (ls' := [some (.ref 42), some (.int (nI ring)), some (.int (nI rest)), some (.int (nI (low rest))), some (.int (nI (low rest)))]) (sk' := []) (st' := st) (fun _ h => h) ?_
  suffices key : ∀ (m k : Nat) (T : Option Nat) (s0 : mSt), k + m = rest - low rest + 1 → Fr [42] st s0 → PXr s0 (kyF W) T → SP (L ++ jL ring rest (low rest) k) (kyF W) T → mW (mMC mT (d + 2)) (0, fun _ => 0) (mAtL P_X6_partRest) none Q 8 [some (.ref 42), some (.int (nI ring)), some (.int (nI rest)), some (.int (nI (low rest))), some (.int (nI (low rest + k)))] [] s0 from key (rest - low rest + 1) 0 T st (by omega) Fr.rf hT (by rw [show jL ring rest (low rest) 0 = [] from rfl, List.append_nil]; exact hSP)
  intro m
  induction m with
  | zero =>
    intro k T s0 hk hf hT hSP
    obtain rfl : rest - low rest + 1 = k := by omega
    refine w_blk 2 (pc' := 11) (ls' := [some (.ref 42), some (.int (nI ring)), some (.int (nI rest)), some (.int (nI (low rest))), some (.int (nI (low rest + (rest - low rest + 1))))]) (sk' := [.int (nI rest), .int (nI (low rest + (rest - low rest + 1)))]) (st' := s0) (fun _ h => h) ?_
    refine w_cmp_gt rfl (fun _ => ?_) (fun hno => absurd (nI_lt (by omega) (by omega)) hno)
    exact w_vret rfl rfl (hq T s0 ⟨hT, hSP, hf⟩)
  | succ m ih =>
    intro k T s0 hk hf hT hSP
    have hnx : low rest + k ≤ rest := by omega
    have fa := fin64 (low rest + k) (by omega) rest (by omega)
    have fb := fin64 (low rest + k) (by omega) (low rest) (by omega)
    have fc := fin64 rest (by omega) (low rest + k) (by omega)
    have fd : andn rest (low rest + k) ≤ rest := Nat.and_le_left
    have fa1 := fa.1
    have fb1 := fb.2.2.1
    have fc1 := fc.1
    have hW0 : ∀ j, j < A → s0.1 43 j = nI (W j) := fun j hj => by rw [hf.1 43 (by decide)]; exact hW j hj
    refine w_blk 2 (pc' := 11) (ls' := [some (.ref 42), some (.int (nI ring)), some (.int (nI rest)), some (.int (nI (low rest))), some (.int (nI (low rest + k)))]) (sk' := [.int (nI rest), .int (nI (low rest + k))]) (st' := s0) (fun _ h => h) ?_
    refine w_cmp_gt rfl (fun hno => absurd hno (fun hh => absurd ((nI_ltI (by omega) (by omega)).mp hh) (by omega))) (fun _ => ?_)
    refine w_blk 5 (pc' := 20) (ls' := [some (.ref 42), some (.int (nI ring)), some (.int (nI rest)), some (.int (nI (low rest))), some (.int (nI (low rest + k)))]) (sk' := [.int ((nI (low rest + k)) &&& ((nI rest) ^^^ (-1)))]) (st' := s0) (fun _ h => h) ?_
    rw [andn_I (by omega) (by omega)]
    refine w_if_ne rfl (fun h1 => ?_) (fun h1 => ?_)
    · replace h1 : ¬ (andn (low rest + k) rest = 0) := fun hh => h1 ((nI_eq (a := (andn (low rest + k) rest)) (b := 0) (by omega) (by omega)).mpr hh)
      refine w_blk 1 (pc' := 46) (ls' := [some (.ref 42), some (.int (nI ring)), some (.int (nI rest)), some (.int (nI (low rest))), some (.int ((nI (low rest + k)) + 1))]) (sk' := []) (st' := s0) (fun _ h => h) ?_
      rw [show ((nI (low rest + k)) + 1) = nI ((low rest + k) + 1) from nI_add (low rest + k) 1]
      refine w_blk 1 (pc' := 8) (ls' := [some (.ref 42), some (.int (nI ring)), some (.int (nI rest)), some (.int (nI (low rest))), some (.int (nI ((low rest + k) + 1)))]) (sk' := []) (st' := s0) (fun _ h => h) ?_
      exact ih (k + 1) T s0 (by omega) hf hT (by rw [show jL ring rest (low rest) (k + 1) = jL ring rest (low rest) k from if_neg (fun hh => h1 hh.1)]; exact hSP)
    · replace h1 : andn (low rest + k) rest = 0 := (nI_eq (a := (andn (low rest + k) rest)) (b := 0) (by omega) (by omega)).mp (Decidable.not_not.mp h1)
      refine w_blk 3 (pc' := 27) (ls' := [some (.ref 42), some (.int (nI ring)), some (.int (nI rest)), some (.int (nI (low rest))), some (.int (nI (low rest + k)))]) (sk' := [.int ((nI (low rest + k)) &&& (nI (low rest)))]) (st' := s0) (fun _ h => h) ?_
      rw [show ((nI (low rest + k)) &&& (nI (low rest))) = nI ((low rest + k) &&& (low rest)) from nI_and (low rest + k) (low rest)]
      refine w_if_eq rfl (fun h2 => ?_) (fun h2 => ?_)
      · replace h2 : (low rest + k) &&& (low rest) = 0 := (nI_eq (a := ((low rest + k) &&& (low rest))) (b := 0) (by omega) (by omega)).mp h2
        refine w_blk 1 (pc' := 46) (ls' := [some (.ref 42), some (.int (nI ring)), some (.int (nI rest)), some (.int (nI (low rest))), some (.int ((nI (low rest + k)) + 1))]) (sk' := []) (st' := s0) (fun _ h => h) ?_
        rw [show ((nI (low rest + k)) + 1) = nI ((low rest + k) + 1) from nI_add (low rest + k) 1]
        refine w_blk 1 (pc' := 8) (ls' := [some (.ref 42), some (.int (nI ring)), some (.int (nI rest)), some (.int (nI (low rest))), some (.int (nI ((low rest + k) + 1)))]) (sk' := []) (st' := s0) (fun _ h => h) ?_
        exact ih (k + 1) T s0 (by omega) hf hT (by rw [show jL ring rest (low rest) (k + 1) = jL ring rest (low rest) k from if_neg (fun hh => hh.2 h2)]; exact hSP)
      · replace h2 : ¬ ((low rest + k) &&& (low rest) = 0) := fun hh => h2 ((nI_eq (a := ((low rest + k) &&& (low rest))) (b := 0) (by omega) (by omega)).mpr hh)
        refine w_blk 8 (pc' := 40) (ls' := [some (.ref 42), some (.int (nI ring)), some (.int (nI rest)), some (.int (nI (low rest))), some (.int (nI (low rest + k)))]) (sk' := [.int ((nI rest) &&& ((nI (low rest + k)) ^^^ (-1))), .int (nI (low rest + k)), .int (nI ring), .ref 42]) (st' := s0) (fun _ h => h) ?_
        rw [andn_I (by omega) (by omega)]
        obtain ⟨s1, hc_2, hT_3, hf_4⟩ := c_offer (d + 0) A W T ring (low rest + k) (andn rest (low rest + k)) s0 hW0 hWb hA (by omega) (by omega) (by omega) hT
        refine w_callV (As := [.ref 42, .int (nI ring), .int (nI (low rest + k)), .int (nI (andn rest (low rest + k)))]) (rest := []) rfl rfl rfl (Nat.le_of_ble_eq_true rfl) (Nat.le_of_ble_eq_true rfl) (by first | exact Or.inl ⟨rfl, rfl⟩ | exact Or.inr ⟨rfl, rfl⟩) hc_2 ?_
        refine w_blk 1 (pc' := 46) (ls' := [some (.ref 42), some (.int (nI ring)), some (.int (nI rest)), some (.int (nI (low rest))), some (.int ((nI (low rest + k)) + 1))]) (sk' := []) (st' := s1) (fun _ h => h) ?_
        rw [show ((nI (low rest + k)) + 1) = nI ((low rest + k) + 1) from nI_add (low rest + k) 1]
        refine w_blk 1 (pc' := 8) (ls' := [some (.ref 42), some (.int (nI ring)), some (.int (nI rest)), some (.int (nI (low rest))), some (.int (nI ((low rest + k) + 1)))]) (sk' := []) (st' := s1) (fun _ h => h) ?_
        exact ih (k + 1) _ s1 (by omega) (Fr.trans hf hf_4) hT_3 (by rw [show jL ring rest (low rest) (k + 1) = jL ring rest (low rest) k ++ [ring * 4096 + (low rest + k) * 64 + andn rest (low rest + k)] from if_pos ⟨h1, h2⟩, ← List.append_assoc]; exact SP_stX hSP (fun x hx => by rcases List.mem_append.mp hx with hx | hx; (· have := hL x hx; omega); (· have := jL_lt (by omega) k (by omega) x hx; omega)))
set_option maxRecDepth 20000 in
/-- part(crew, q, t) -/
theorem c_part_5 (d : Nat) (n : Nat → Nat) (c : Nat → Nat → Nat) (q t : Nat) (st : mSt) (hX : X5 st n c) (hB : CB n c) (ht : t ≤ 999) (hq3 : q ≤ 3) : ∃ (T : Option Nat) (s : mSt), mMC mT (d + 4) 53 [.ref 42, .ref 5, .int (nI q), .int (nI t)] st (none) s ∧ ((n 0 = 0 ∧ s.1 42 0 = 0) ∨ (1 ≤ n 0 ∧ PXr s (kyF (wgt n c t)) T ∧ SP (xL (2 ^ n 0 - 1) q (2 ^ (n 0 - 1))) (kyF (wgt n c t)) T)) ∧ Fr [42, 43] st s := by
  suffices H : ∀ Q : Option Value → mSt → Prop, (∀ (T : Option Nat) (s : mSt), (((n 0 = 0 ∧ s.1 42 0 = 0) ∨ (1 ≤ n 0 ∧ PXr s (kyF (wgt n c t)) T ∧ SP (xL (2 ^ n 0 - 1) q (2 ^ (n 0 - 1))) (kyF (wgt n c t)) T)) ∧ Fr [42, 43] st s) → Q (none) s) → mW (mMC mT (d + 3)) (0, fun _ => 0) (mAtL P_X6_part) none Q 0 [some (.ref 42), some (.ref 5), some (.int (nI q)), some (.int (nI t)), none, none, none] [] st by
    obtain ⟨_, _, ⟨T, s, rfl, rfl, hp⟩, hw⟩ := mW_ex (H (fun vv tt => ∃ (T : Option Nat) (s : mSt),  vv = none ∧ s = tt ∧ ((n 0 = 0 ∧ s.1 42 0 = 0) ∨ (1 ≤ n 0 ∧ PXr s (kyF (wgt n c t)) T ∧ SP (xL (2 ^ n 0 - 1) q (2 ^ (n 0 - 1))) (kyF (wgt n c t)) T)) ∧ Fr [42, 43] st s) (fun T s hp => ⟨T, s, rfl, rfl, hp⟩))
    exact ⟨T, s, mI_X6_part (d := d + 3) (Nat.le_of_ble_eq_true rfl) hw, hp⟩
  intro Q hq
  obtain ⟨hb0, hb1, hb2, hbd, hbs, hby⟩ := id hB
  obtain ⟨A, hA⟩ : ∃ A, A = 2 ^ n 0 := ⟨_, rfl⟩
  have hA64 : A ≤ 64 := by rw [hA]; exact (show 2 ^ n 0 ≤ 2 ^ 6 from Nat.pow_le_pow_right (by decide) hb0)
  have hA1 : 1 ≤ A := by rw [hA]; exact Nat.two_pow_pos _
  have hA0 : n 0 = 0 → A = 1 := fun e => by rw [hA, e]
  have hA2 : 1 ≤ n 0 → A = 2 * 2 ^ (n 0 - 1) := fun e => by rw [hA, ← Nat.pow_succ', show (n 0 - 1).succ = n 0 by omega]
  have hWb : ∀ j, wgt n c t j ≤ 53946 := fun j => wgt_le hB ht j
  obtain ⟨W, hWe⟩ : ∃ W, W = wgt n c t := ⟨_, rfl⟩
  refine w_blk 3 (pc' := 5) (ls' := [some (.ref 42), some (.ref 5), some (.int (nI q)), some (.int (nI t)), none, none, none]) (sk' := [.int (st.1 5 0), .int 1]) (st' := st) (fun _ h => h) ?_
  rw [hX.1]
  refine w_blk 1 (pc' := 6) (ls' := [some (.ref 42), some (.ref 5), some (.int (nI q)), some (.int (nI t)), none, none, none]) (sk' := [.int (1 <<< ((nI (n 0)) &&& 31))]) (st' := st) (fun _ h => h) ?_
  rw [show (1 <<< ((nI (n 0)) &&& 31)) = nI (2 ^ (n 0)) from nI_shl1 (by omega)]
  rw [show (nI (2 ^ (n 0))) = nI A from congrArg nI hA.symm]
  refine w_blk 2 (pc' := 8) (ls' := [some (.ref 42), some (.ref 5), some (.int (nI q)), some (.int (nI t)), none, none, none]) (sk' := [.int ((nI A) - 1)]) (st' := st) (fun _ h => h) ?_
  rw [show ((nI A) - 1) = nI (A - 1) from pk_sub (a := A) (b := 1) (by omega)]
  refine w_blk 3 (pc' := 13) (ls' := [some (.ref 42), some (.ref 5), some (.int (nI q)), some (.int (nI t)), some (.int (nI (A - 1))), some (.int 0), none]) (sk' := []) (st' := st) (fun _ h => h) ?_
  suffices key : ∀ (m k : Nat) (s0 : mSt), k + m = A → Fr [42, 43] st s0 → (∀ j, j < k → s0.1 43 j = nI (wgt n c t j)) → mW (mMC mT (d + 3)) (0, fun _ => 0) (mAtL P_X6_part) none Q 13 [some (.ref 42), some (.ref 5), some (.int (nI q)), some (.int (nI t)), some (.int (nI (A - 1))), some (.int (nI k)), none] [] s0 from key A 0 st (by omega) Fr.rf (fun j hj => absurd hj (by omega))
  intro m
  induction m with
  | zero =>
    intro k s0 hk hf hW
    obtain rfl : A = k := by omega
    refine w_blk 2 (pc' := 17) (ls' := [some (.ref 42), some (.ref 5), some (.int (nI q)), some (.int (nI t)), some (.int (nI (A - 1))), some (.int (nI A)), none]) (sk' := [.int (nI (A - 1)), .int (nI A)]) (st' := s0) (fun _ h => h) ?_
    refine w_cmp_gt rfl (fun _ => ?_) (fun hno => absurd (nI_lt (by omega) (by omega)) hno)
    refine w_blk 2 (pc' := 53) (ls' := [some (.ref 42), some (.ref 5), some (.int (nI q)), some (.int (nI t)), some (.int (nI (A - 1))), some (.int (nI A)), none]) (sk' := [.int (nI (A - 1)), .ref 42]) (st' := s0) (fun _ h => h) ?_
    refine w_if_ne rfl (fun h1 => ?_) (fun h1 => ?_)
    · replace h1 : ¬ (A - 1 = 0) := fun hh => h1 ((nI_eq (a := (A - 1)) (b := 0) (by omega) (by omega)).mpr hh)
      refine w_blk 2 (pc' := 64) (ls' := [some (.ref 42), some (.ref 5), some (.int (nI q)), some (.int (nI t)), some (.int (nI (A - 1))), some (.int (nI A)), none]) (sk' := []) (st' := ((mU s0.1 42 0 (-1)), s0.2)) (fun _ h => h) ?_
      have hn1 : 1 ≤ n 0 := by by_cases e : n 0 = 0; (· have := hA0 e; omega); (· omega)
      have hAH := hA2 hn1
      generalize hH : 2 ^ (n 0 - 1) = H at hAH
      have hT_2 : PXr ((mU s0.1 42 0 (-1)), s0.2) (kyF W) none := rfl
      have hF_3 : Fr [42, 43] st ((mU s0.1 42 0 (-1)), s0.2) := Fr.trans hf (Fr.mU (by decide))
      have hW_4 : ∀ j, j < A → (((mU s0.1 42 0 (-1)), s0.2)).1 43 j = nI (W j) := (by rw [hWe]; exact hW)
      generalize ((mU s0.1 42 0 (-1)), s0.2) = s1 at hT_2 hF_3 hW_4 ⊢
      refine w_blk 2 (pc' := 67) (ls' := [some (.ref 42), some (.ref 5), some (.int (nI q)), some (.int (nI t)), some (.int (nI (A - 1))), some (.int 1), none]) (sk' := []) (st' := s1) (fun _ h => h) ?_
      rw [← hWe] at hWb
      suffices key : ∀ (m i : Nat) (T : Option Nat) (s1 : mSt) (l6 : Option Value), i + m = H → Fr [42, 43] st s1 → (∀ j, j < A → s1.1 43 j = nI (W j)) → PXr s1 (kyF W) T → SP (xL (A - 1) q i) (kyF W) T → mW (mMC mT (d + 3)) (0, fun _ => 0) (mAtL P_X6_part) none Q 67 [some (.ref 42), some (.ref 5), some (.int (nI q)), some (.int (nI t)), some (.int (nI (A - 1))), some (.int (nI (2 * i + 1))), l6] [] s1 from key H 0 none _ _ (by omega) hF_3 hW_4 hT_2 rfl
      intro m
      induction m with
      | zero =>
        intro i T s1 l6 hi hf1 hW1 hT hSP
        obtain rfl : H = i := by omega
        refine w_blk 2 (pc' := 71) (ls' := [some (.ref 42), some (.ref 5), some (.int (nI q)), some (.int (nI t)), some (.int (nI (A - 1))), some (.int (nI (2 * H + 1))), l6]) (sk' := [.int (nI (A - 1)), .int (nI (2 * H + 1))]) (st' := s1) (fun _ h => h) ?_
        refine w_cmp_gt rfl (fun _ => ?_) (fun hno => absurd (nI_lt (by omega) (by omega)) hno)
        exact w_vret rfl rfl (hq T s1 ⟨Or.inr ⟨hn1, by rw [← hWe]; exact hT, by rw [← hWe]; show SP (xL (2 ^ n 0 - 1) q (2 ^ (n 0 - 1))) (kyF W) T; rw [← hA, hH]; exact hSP⟩, hf1⟩)
      | succ m ih =>
        intro i T s1 l6 hi hf1 hW1 hT hSP
        have hri : 2 * i + 1 ≤ A - 1 := by omega
        have fa := (fin64 (A - 1) (by omega) (2 * i + 1) (by omega)).1
        have fb : andn (A - 1) (2 * i + 1) ≤ A - 1 := Nat.and_le_left
        have hLt : ∀ x, x ∈ xL (A - 1) q i → x < (2 * i + 1) * 4096 := fun x hx => ar2 (Nat.lt_succ_of_lt (xL_lt (by omega) i (by omega) x hx))
        refine w_blk 2 (pc' := 71) (ls' := [some (.ref 42), some (.ref 5), some (.int (nI q)), some (.int (nI t)), some (.int (nI (A - 1))), some (.int (nI (2 * i + 1))), l6]) (sk' := [.int (nI (A - 1)), .int (nI (2 * i + 1))]) (st' := s1) (fun _ h => h) ?_
        refine w_cmp_gt rfl (fun hno => absurd hno (fun hh => absurd ((nI_ltI (by omega) (by omega)).mp hh) (by omega))) (fun _ => ?_)
        have hA := hA64
        refine w_blk 5 (pc' := 81) (ls' := [some (.ref 42), some (.ref 5), some (.int (nI q)), some (.int (nI t)), some (.int (nI (A - 1))), some (.int (nI (2 * i + 1))), l6]) (sk' := [.int ((nI (A - 1)) &&& ((nI (2 * i + 1)) ^^^ (-1)))]) (st' := s1) (fun _ h => h) ?_
        rw [andn_I (by omega) (by omega)]
        refine w_blk 2 (pc' := 85) (ls' := [some (.ref 42), some (.ref 5), some (.int (nI q)), some (.int (nI t)), some (.int (nI (A - 1))), some (.int (nI (2 * i + 1))), some (.int (nI (andn (A - 1) (2 * i + 1))))]) (sk' := [.int (nI (andn (A - 1) (2 * i + 1)))]) (st' := s1) (fun _ h => h) ?_
        refine w_if_ne rfl (fun h2 => ?_) (fun h2 => ?_)
        · replace h2 : ¬ (andn (A - 1) (2 * i + 1) = 0) := fun hh => h2 ((nI_eq (a := (andn (A - 1) (2 * i + 1))) (b := 0) (by omega) (by omega)).mpr hh)
          refine w_blk 2 (pc' := 101) (ls' := [some (.ref 42), some (.ref 5), some (.int (nI q)), some (.int (nI t)), some (.int (nI (A - 1))), some (.int (nI (2 * i + 1))), some (.int (nI (andn (A - 1) (2 * i + 1))))]) (sk' := [.int 2, .int (nI q)]) (st' := s1) (fun _ h => h) ?_
          refine w_cmp_ne rfl (fun h3 => ?_) (fun h3 => ?_)
          · replace h3 : ¬ (q = 2) := fun hh => h3 ((nI_eq (a := q) (b := 2) (by omega) (by omega)).mpr hh)
            refine w_blk 2 (pc' := 118) (ls' := [some (.ref 42), some (.ref 5), some (.int (nI q)), some (.int (nI t)), some (.int (nI (A - 1))), some (.int (nI (2 * i + 1))), some (.int (nI (andn (A - 1) (2 * i + 1))))]) (sk' := [.int 3, .int (nI q)]) (st' := s1) (fun _ h => h) ?_
            refine w_cmp_ne rfl (fun h4 => ?_) (fun h4 => ?_)
            · replace h4 : ¬ (q = 3) := fun hh => h4 ((nI_eq (a := q) (b := 3) (by omega) (by omega)).mpr hh)
              refine w_blk 1 (pc' := 132) (ls' := [some (.ref 42), some (.ref 5), some (.int (nI q)), some (.int (nI t)), some (.int (nI (A - 1))), some (.int ((nI (2 * i + 1)) + 2)), some (.int (nI (andn (A - 1) (2 * i + 1))))]) (sk' := []) (st' := s1) (fun _ h => h) ?_
              rw [show ((nI (2 * i + 1)) + 2) = nI ((2 * i + 1) + 2) from nI_add (2 * i + 1) 2]
              refine w_blk 1 (pc' := 67) (ls' := [some (.ref 42), some (.ref 5), some (.int (nI q)), some (.int (nI t)), some (.int (nI (A - 1))), some (.int (nI ((2 * i + 1) + 2))), some (.int (nI (andn (A - 1) (2 * i + 1))))]) (sk' := []) (st' := s1) (fun _ h => h) ?_
              exact ih (i + 1) T s1 _ (by omega) hf1 hW1 hT (by show SP (xL (A - 1) q i ++ cL (A - 1) q (2 * i + 1)) (kyF W) _; rw [show cL (A - 1) q (2 * i + 1) = [] from (if_neg h2).trans ((if_neg h3).trans (if_neg h4)), List.append_nil]; exact hSP)
            · replace h4 : q = 3 := (nI_eq (a := q) (b := 3) (by omega) (by omega)).mp (Decidable.not_not.mp h4)
              refine w_blk 3 (pc' := 126) (ls' := [some (.ref 42), some (.ref 5), some (.int (nI q)), some (.int (nI t)), some (.int (nI (A - 1))), some (.int (nI (2 * i + 1))), some (.int (nI (andn (A - 1) (2 * i + 1))))]) (sk' := [.int (nI (andn (A - 1) (2 * i + 1))), .int (nI (2 * i + 1)), .ref 42]) (st' := s1) (fun _ h => h) ?_
              obtain ⟨T9, s5, hc_6, hT_7, hS_10, hf_8⟩ := c_partRest (d + 0) A W T (xL (A - 1) q i) (2 * i + 1) (andn (A - 1) (2 * i + 1)) s1 hW1 hWb hA (by omega) (by omega) (by omega) hLt hT hSP
              refine w_callV (As := [.ref 42, .int (nI (2 * i + 1)), .int (nI (andn (A - 1) (2 * i + 1)))]) (rest := []) rfl rfl rfl (Nat.le_of_ble_eq_true rfl) (Nat.le_of_ble_eq_true rfl) (by first | exact Or.inl ⟨rfl, rfl⟩ | exact Or.inr ⟨rfl, rfl⟩) hc_6 ?_
              refine w_blk 1 (pc' := 132) (ls' := [some (.ref 42), some (.ref 5), some (.int (nI q)), some (.int (nI t)), some (.int (nI (A - 1))), some (.int ((nI (2 * i + 1)) + 2)), some (.int (nI (andn (A - 1) (2 * i + 1))))]) (sk' := []) (st' := s5) (fun _ h => h) ?_
              rw [show ((nI (2 * i + 1)) + 2) = nI ((2 * i + 1) + 2) from nI_add (2 * i + 1) 2]
              refine w_blk 1 (pc' := 67) (ls' := [some (.ref 42), some (.ref 5), some (.int (nI q)), some (.int (nI t)), some (.int (nI (A - 1))), some (.int (nI ((2 * i + 1) + 2))), some (.int (nI (andn (A - 1) (2 * i + 1))))]) (sk' := []) (st' := s5) (fun _ h => h) ?_
              exact ih (i + 1) _ s5 _ (by omega) (Fr.trans hf1 (Fr.mono hf_8 (by decide))) (fun j hj => by rw [hf_8.1 43 (by decide)]; exact hW1 j hj) hT_7 (by show SP (xL (A - 1) q i ++ cL (A - 1) q (2 * i + 1)) (kyF W) _; rw [show cL (A - 1) q (2 * i + 1) = jL (2 * i + 1) (andn (A - 1) (2 * i + 1)) (low (andn (A - 1) (2 * i + 1))) (andn (A - 1) (2 * i + 1) - low (andn (A - 1) (2 * i + 1)) + 1) from (if_neg h2).trans ((if_neg h3).trans (if_pos h4))]; exact hS_10)
          · replace h3 : q = 2 := (nI_eq (a := q) (b := 2) (by omega) (by omega)).mp (Decidable.not_not.mp h3)
            refine w_blk 4 (pc' := 110) (ls' := [some (.ref 42), some (.ref 5), some (.int (nI q)), some (.int (nI t)), some (.int (nI (A - 1))), some (.int (nI (2 * i + 1))), some (.int (nI (andn (A - 1) (2 * i + 1))))]) (sk' := [.int 0, .int (nI (andn (A - 1) (2 * i + 1))), .int (nI (2 * i + 1)), .ref 42]) (st' := s1) (fun _ h => h) ?_
            obtain ⟨s11, hc_12, hT_13, hf_14⟩ := c_offer (d + 1) A W T (2 * i + 1) (andn (A - 1) (2 * i + 1)) 0 s1 hW1 hWb hA (by omega) (by omega) (by omega) hT
            refine w_callV (As := [.ref 42, .int (nI (2 * i + 1)), .int (nI (andn (A - 1) (2 * i + 1))), .int 0]) (rest := []) rfl rfl rfl (Nat.le_of_ble_eq_true rfl) (Nat.le_of_ble_eq_true rfl) (by first | exact Or.inl ⟨rfl, rfl⟩ | exact Or.inr ⟨rfl, rfl⟩) hc_12 ?_
            refine w_blk 2 (pc' := 132) (ls' := [some (.ref 42), some (.ref 5), some (.int (nI q)), some (.int (nI t)), some (.int (nI (A - 1))), some (.int ((nI (2 * i + 1)) + 2)), some (.int (nI (andn (A - 1) (2 * i + 1))))]) (sk' := []) (st' := s11) (fun _ h => h) ?_
            rw [show ((nI (2 * i + 1)) + 2) = nI ((2 * i + 1) + 2) from nI_add (2 * i + 1) 2]
            refine w_blk 1 (pc' := 67) (ls' := [some (.ref 42), some (.ref 5), some (.int (nI q)), some (.int (nI t)), some (.int (nI (A - 1))), some (.int (nI ((2 * i + 1) + 2))), some (.int (nI (andn (A - 1) (2 * i + 1))))]) (sk' := []) (st' := s11) (fun _ h => h) ?_
            exact ih (i + 1) _ s11 _ (by omega) (Fr.trans hf1 (Fr.mono hf_14 (by decide))) (fun j hj => by rw [hf_14.1 43 (by decide)]; exact hW1 j hj) hT_13 (by show SP (xL (A - 1) q i ++ cL (A - 1) q (2 * i + 1)) (kyF W) _; rw [show cL (A - 1) q (2 * i + 1) = [(2 * i + 1) * 4096 + andn (A - 1) (2 * i + 1) * 64 + 0] from (if_neg h2).trans (if_pos h3)]; exact SP_stX hSP (fun x hx => by have := hLt x hx; omega))
        · replace h2 : andn (A - 1) (2 * i + 1) = 0 := (nI_eq (a := (andn (A - 1) (2 * i + 1))) (b := 0) (by omega) (by omega)).mp (Decidable.not_not.mp h2)
          refine w_blk 4 (pc' := 93) (ls' := [some (.ref 42), some (.ref 5), some (.int (nI q)), some (.int (nI t)), some (.int (nI (A - 1))), some (.int (nI (2 * i + 1))), some (.int (nI (andn (A - 1) (2 * i + 1))))]) (sk' := [.int 0, .int 0, .int (nI (2 * i + 1)), .ref 42]) (st' := s1) (fun _ h => h) ?_
          obtain ⟨s15, hc_16, hT_17, hf_18⟩ := c_offer (d + 1) A W T (2 * i + 1) 0 0 s1 hW1 hWb hA (by omega) (by omega) (by omega) hT
          refine w_callV (As := [.ref 42, .int (nI (2 * i + 1)), .int 0, .int 0]) (rest := []) rfl rfl rfl (Nat.le_of_ble_eq_true rfl) (Nat.le_of_ble_eq_true rfl) (by first | exact Or.inl ⟨rfl, rfl⟩ | exact Or.inr ⟨rfl, rfl⟩) hc_16 ?_
          refine w_blk 2 (pc' := 132) (ls' := [some (.ref 42), some (.ref 5), some (.int (nI q)), some (.int (nI t)), some (.int (nI (A - 1))), some (.int ((nI (2 * i + 1)) + 2)), some (.int (nI (andn (A - 1) (2 * i + 1))))]) (sk' := []) (st' := s15) (fun _ h => h) ?_
          rw [show ((nI (2 * i + 1)) + 2) = nI ((2 * i + 1) + 2) from nI_add (2 * i + 1) 2]
          refine w_blk 1 (pc' := 67) (ls' := [some (.ref 42), some (.ref 5), some (.int (nI q)), some (.int (nI t)), some (.int (nI (A - 1))), some (.int (nI ((2 * i + 1) + 2))), some (.int (nI (andn (A - 1) (2 * i + 1))))]) (sk' := []) (st' := s15) (fun _ h => h) ?_
          exact ih (i + 1) _ s15 _ (by omega) (Fr.trans hf1 (Fr.mono hf_18 (by decide))) (fun j hj => by rw [hf_18.1 43 (by decide)]; exact hW1 j hj) hT_17 (by show SP (xL (A - 1) q i ++ cL (A - 1) q (2 * i + 1)) (kyF W) _; rw [show cL (A - 1) q (2 * i + 1) = [(2 * i + 1) * 4096 + 0 * 64 + 0] from if_pos h2]; exact SP_stX hSP (fun x hx => by have := hLt x hx; omega))
    · replace h1 : A - 1 = 0 := (nI_eq (a := (A - 1)) (b := 0) (by omega) (by omega)).mp (Decidable.not_not.mp h1)
      refine w_blk 3 (pc' := 64) (ls' := [some (.ref 42), some (.ref 5), some (.int (nI q)), some (.int (nI t)), some (.int (nI (A - 1))), some (.int (nI A)), none]) (sk' := []) (st' := ((mU s0.1 42 0 0), s0.2)) (fun _ h => h) ?_
      refine w_blk 4 (pc' := 71) (ls' := [some (.ref 42), some (.ref 5), some (.int (nI q)), some (.int (nI t)), some (.int (nI (A - 1))), some (.int 1), none]) (sk' := [.int (nI (A - 1)), .int 1]) (st' := ((mU s0.1 42 0 0), s0.2)) (fun _ h => h) ?_
      refine w_cmp_gt rfl (fun _ => ?_) (fun hno => absurd (nI_lt (a := A - 1) (b := 1) (by omega) (by omega)) hno)
      have hn0 : n 0 = 0 := by by_cases e : 1 ≤ n 0; (· have := hA2 e; have := Nat.two_pow_pos (n 0 - 1); omega); (· omega)
      exact w_vret rfl rfl (hq none _ ⟨Or.inl ⟨hn0, rfl⟩, Fr.trans hf (Fr.mU (by decide))⟩)
  | succ m ih =>
    intro k s0 hk hf hW
    have hk2 : k < A := by omega
    have hX0 : X5 s0 n c := X5_fr hf (by decide) hX
    refine w_blk 2 (pc' := 17) (ls' := [some (.ref 42), some (.ref 5), some (.int (nI q)), some (.int (nI t)), some (.int (nI (A - 1))), some (.int (nI k)), none]) (sk' := [.int (nI (A - 1)), .int (nI k)]) (st' := s0) (fun _ h => h) ?_
    refine w_cmp_gt rfl (fun hno => absurd hno (fun hh => absurd ((nI_ltI (by omega) (by omega)).mp hh) (by omega))) (fun _ => ?_)
    refine w_blk 4 (pc' := 27) (ls' := [some (.ref 42), some (.ref 5), some (.int (nI q)), some (.int (nI t)), some (.int (nI (A - 1))), some (.int (nI k)), none]) (sk' := [.int (Int32.ofNat 64), .int (nI k)]) (st' := s0) (fun _ h => h) ?_
    rw [show (Int32.ofNat 64) = nI 64 from rfl]
    refine w_cmp_ge rfl (fun hno => absurd hno (nI_ge (by omega) (by omega))) (fun _ => ?_)
    refine w_blk 6 (pc' := 40) (ls' := [some (.ref 42), some (.ref 5), some (.int (nI q)), some (.int (nI t)), some (.int (nI (A - 1))), some (.int (nI k)), none]) (sk' := [.int (nI t), .int (nI k), .ref 5, .int (nI k), .ref 43]) (st' := s0) (fun _ h => h) ?_
    refine w_callS (As := [.ref 5, .int (nI k), .int (nI t)]) (rest := [.int (nI k), .ref 43]) rfl rfl rfl (Nat.le_of_ble_eq_true rfl) (Nat.le_of_ble_eq_true rfl) (c_weigh_5 (d + 1) n c t k s0 hX0 hB (by omega) (by omega)) ?_
    refine w_iast rfl rfl (vp_in_nI (n := k) (N := 64) (by omega) (by decide)) ?_
    rw [nI_clamp (show k < 2 ^ 31 by omega)]
    refine w_blk 1 (pc' := 47) (ls' := [some (.ref 42), some (.ref 5), some (.int (nI q)), some (.int (nI t)), some (.int (nI (A - 1))), some (.int ((nI k) + 1)), none]) (sk' := []) (st' := ((mU s0.1 43 k (nI (wgt n c t k))), s0.2)) (fun _ h => h) ?_
    rw [show ((nI k) + 1) = nI (k + 1) from nI_add k 1]
    refine w_blk 1 (pc' := 13) (ls' := [some (.ref 42), some (.ref 5), some (.int (nI q)), some (.int (nI t)), some (.int (nI (A - 1))), some (.int (nI (k + 1))), none]) (sk' := []) (st' := ((mU s0.1 43 k (nI (wgt n c t k))), s0.2)) (fun _ h => h) ?_
    exact ih (k + 1) ((mU s0.1 43 k (nI (wgt n c t k))), s0.2) (by omega) (Fr.trans hf (Fr.mU (by decide))) (fun j hj => if ej : j = k then (by rw [ej]; exact mU_at (f := s0.1) (p := 43) (k := k)) else (mU_row ej).trans (hW j (by omega)))
set_option maxRecDepth 20000 in
/-- part(crew, q, t) -/
theorem c_part_13 (d : Nat) (n : Nat → Nat) (c : Nat → Nat → Nat) (q t : Nat) (st : mSt) (hX : X13 st n c) (hB : CB n c) (ht : t ≤ 999) (hq3 : q ≤ 3) : ∃ (T : Option Nat) (s : mSt), mMC mT (d + 4) 53 [.ref 42, .ref 13, .int (nI q), .int (nI t)] st (none) s ∧ ((n 0 = 0 ∧ s.1 42 0 = 0) ∨ (1 ≤ n 0 ∧ PXr s (kyF (wgt n c t)) T ∧ SP (xL (2 ^ n 0 - 1) q (2 ^ (n 0 - 1))) (kyF (wgt n c t)) T)) ∧ Fr [42, 43] st s := by
  suffices H : ∀ Q : Option Value → mSt → Prop, (∀ (T : Option Nat) (s : mSt), (((n 0 = 0 ∧ s.1 42 0 = 0) ∨ (1 ≤ n 0 ∧ PXr s (kyF (wgt n c t)) T ∧ SP (xL (2 ^ n 0 - 1) q (2 ^ (n 0 - 1))) (kyF (wgt n c t)) T)) ∧ Fr [42, 43] st s) → Q (none) s) → mW (mMC mT (d + 3)) (0, fun _ => 0) (mAtL P_X6_part) none Q 0 [some (.ref 42), some (.ref 13), some (.int (nI q)), some (.int (nI t)), none, none, none] [] st by
    obtain ⟨_, _, ⟨T, s, rfl, rfl, hp⟩, hw⟩ := mW_ex (H (fun vv tt => ∃ (T : Option Nat) (s : mSt),  vv = none ∧ s = tt ∧ ((n 0 = 0 ∧ s.1 42 0 = 0) ∨ (1 ≤ n 0 ∧ PXr s (kyF (wgt n c t)) T ∧ SP (xL (2 ^ n 0 - 1) q (2 ^ (n 0 - 1))) (kyF (wgt n c t)) T)) ∧ Fr [42, 43] st s) (fun T s hp => ⟨T, s, rfl, rfl, hp⟩))
    exact ⟨T, s, mI_X6_part (d := d + 3) (Nat.le_of_ble_eq_true rfl) hw, hp⟩
  intro Q hq
  obtain ⟨hb0, hb1, hb2, hbd, hbs, hby⟩ := id hB
  obtain ⟨A, hA⟩ : ∃ A, A = 2 ^ n 0 := ⟨_, rfl⟩
  have hA64 : A ≤ 64 := by rw [hA]; exact (show 2 ^ n 0 ≤ 2 ^ 6 from Nat.pow_le_pow_right (by decide) hb0)
  have hA1 : 1 ≤ A := by rw [hA]; exact Nat.two_pow_pos _
  have hA0 : n 0 = 0 → A = 1 := fun e => by rw [hA, e]
  have hA2 : 1 ≤ n 0 → A = 2 * 2 ^ (n 0 - 1) := fun e => by rw [hA, ← Nat.pow_succ', show (n 0 - 1).succ = n 0 by omega]
  have hWb : ∀ j, wgt n c t j ≤ 53946 := fun j => wgt_le hB ht j
  obtain ⟨W, hWe⟩ : ∃ W, W = wgt n c t := ⟨_, rfl⟩
  refine w_blk 3 (pc' := 5) (ls' := [some (.ref 42), some (.ref 13), some (.int (nI q)), some (.int (nI t)), none, none, none]) (sk' := [.int (st.1 13 0), .int 1]) (st' := st) (fun _ h => h) ?_
  rw [hX.1]
  refine w_blk 1 (pc' := 6) (ls' := [some (.ref 42), some (.ref 13), some (.int (nI q)), some (.int (nI t)), none, none, none]) (sk' := [.int (1 <<< ((nI (n 0)) &&& 31))]) (st' := st) (fun _ h => h) ?_
  rw [show (1 <<< ((nI (n 0)) &&& 31)) = nI (2 ^ (n 0)) from nI_shl1 (by omega)]
  rw [show (nI (2 ^ (n 0))) = nI A from congrArg nI hA.symm]
  refine w_blk 2 (pc' := 8) (ls' := [some (.ref 42), some (.ref 13), some (.int (nI q)), some (.int (nI t)), none, none, none]) (sk' := [.int ((nI A) - 1)]) (st' := st) (fun _ h => h) ?_
  rw [show ((nI A) - 1) = nI (A - 1) from pk_sub (a := A) (b := 1) (by omega)]
  refine w_blk 3 (pc' := 13) (ls' := [some (.ref 42), some (.ref 13), some (.int (nI q)), some (.int (nI t)), some (.int (nI (A - 1))), some (.int 0), none]) (sk' := []) (st' := st) (fun _ h => h) ?_
  suffices key : ∀ (m k : Nat) (s0 : mSt), k + m = A → Fr [42, 43] st s0 → (∀ j, j < k → s0.1 43 j = nI (wgt n c t j)) → mW (mMC mT (d + 3)) (0, fun _ => 0) (mAtL P_X6_part) none Q 13 [some (.ref 42), some (.ref 13), some (.int (nI q)), some (.int (nI t)), some (.int (nI (A - 1))), some (.int (nI k)), none] [] s0 from key A 0 st (by omega) Fr.rf (fun j hj => absurd hj (by omega))
  intro m
  induction m with
  | zero =>
    intro k s0 hk hf hW
    obtain rfl : A = k := by omega
    refine w_blk 2 (pc' := 17) (ls' := [some (.ref 42), some (.ref 13), some (.int (nI q)), some (.int (nI t)), some (.int (nI (A - 1))), some (.int (nI A)), none]) (sk' := [.int (nI (A - 1)), .int (nI A)]) (st' := s0) (fun _ h => h) ?_
    refine w_cmp_gt rfl (fun _ => ?_) (fun hno => absurd (nI_lt (by omega) (by omega)) hno)
    refine w_blk 2 (pc' := 53) (ls' := [some (.ref 42), some (.ref 13), some (.int (nI q)), some (.int (nI t)), some (.int (nI (A - 1))), some (.int (nI A)), none]) (sk' := [.int (nI (A - 1)), .ref 42]) (st' := s0) (fun _ h => h) ?_
    refine w_if_ne rfl (fun h1 => ?_) (fun h1 => ?_)
    · replace h1 : ¬ (A - 1 = 0) := fun hh => h1 ((nI_eq (a := (A - 1)) (b := 0) (by omega) (by omega)).mpr hh)
      refine w_blk 2 (pc' := 64) (ls' := [some (.ref 42), some (.ref 13), some (.int (nI q)), some (.int (nI t)), some (.int (nI (A - 1))), some (.int (nI A)), none]) (sk' := []) (st' := ((mU s0.1 42 0 (-1)), s0.2)) (fun _ h => h) ?_
      have hn1 : 1 ≤ n 0 := by by_cases e : n 0 = 0; (· have := hA0 e; omega); (· omega)
      have hAH := hA2 hn1
      generalize hH : 2 ^ (n 0 - 1) = H at hAH
      have hT_2 : PXr ((mU s0.1 42 0 (-1)), s0.2) (kyF W) none := rfl
      have hF_3 : Fr [42, 43] st ((mU s0.1 42 0 (-1)), s0.2) := Fr.trans hf (Fr.mU (by decide))
      have hW_4 : ∀ j, j < A → (((mU s0.1 42 0 (-1)), s0.2)).1 43 j = nI (W j) := (by rw [hWe]; exact hW)
      generalize ((mU s0.1 42 0 (-1)), s0.2) = s1 at hT_2 hF_3 hW_4 ⊢
      refine w_blk 2 (pc' := 67) (ls' := [some (.ref 42), some (.ref 13), some (.int (nI q)), some (.int (nI t)), some (.int (nI (A - 1))), some (.int 1), none]) (sk' := []) (st' := s1) (fun _ h => h) ?_
      rw [← hWe] at hWb
      suffices key : ∀ (m i : Nat) (T : Option Nat) (s1 : mSt) (l6 : Option Value), i + m = H → Fr [42, 43] st s1 → (∀ j, j < A → s1.1 43 j = nI (W j)) → PXr s1 (kyF W) T → SP (xL (A - 1) q i) (kyF W) T → mW (mMC mT (d + 3)) (0, fun _ => 0) (mAtL P_X6_part) none Q 67 [some (.ref 42), some (.ref 13), some (.int (nI q)), some (.int (nI t)), some (.int (nI (A - 1))), some (.int (nI (2 * i + 1))), l6] [] s1 from key H 0 none _ _ (by omega) hF_3 hW_4 hT_2 rfl
      intro m
      induction m with
      | zero =>
        intro i T s1 l6 hi hf1 hW1 hT hSP
        obtain rfl : H = i := by omega
        refine w_blk 2 (pc' := 71) (ls' := [some (.ref 42), some (.ref 13), some (.int (nI q)), some (.int (nI t)), some (.int (nI (A - 1))), some (.int (nI (2 * H + 1))), l6]) (sk' := [.int (nI (A - 1)), .int (nI (2 * H + 1))]) (st' := s1) (fun _ h => h) ?_
        refine w_cmp_gt rfl (fun _ => ?_) (fun hno => absurd (nI_lt (by omega) (by omega)) hno)
        exact w_vret rfl rfl (hq T s1 ⟨Or.inr ⟨hn1, by rw [← hWe]; exact hT, by rw [← hWe]; show SP (xL (2 ^ n 0 - 1) q (2 ^ (n 0 - 1))) (kyF W) T; rw [← hA, hH]; exact hSP⟩, hf1⟩)
      | succ m ih =>
        intro i T s1 l6 hi hf1 hW1 hT hSP
        have hri : 2 * i + 1 ≤ A - 1 := by omega
        have fa := (fin64 (A - 1) (by omega) (2 * i + 1) (by omega)).1
        have fb : andn (A - 1) (2 * i + 1) ≤ A - 1 := Nat.and_le_left
        have hLt : ∀ x, x ∈ xL (A - 1) q i → x < (2 * i + 1) * 4096 := fun x hx => ar2 (Nat.lt_succ_of_lt (xL_lt (by omega) i (by omega) x hx))
        refine w_blk 2 (pc' := 71) (ls' := [some (.ref 42), some (.ref 13), some (.int (nI q)), some (.int (nI t)), some (.int (nI (A - 1))), some (.int (nI (2 * i + 1))), l6]) (sk' := [.int (nI (A - 1)), .int (nI (2 * i + 1))]) (st' := s1) (fun _ h => h) ?_
        refine w_cmp_gt rfl (fun hno => absurd hno (fun hh => absurd ((nI_ltI (by omega) (by omega)).mp hh) (by omega))) (fun _ => ?_)
        have hA := hA64
        refine w_blk 5 (pc' := 81) (ls' := [some (.ref 42), some (.ref 13), some (.int (nI q)), some (.int (nI t)), some (.int (nI (A - 1))), some (.int (nI (2 * i + 1))), l6]) (sk' := [.int ((nI (A - 1)) &&& ((nI (2 * i + 1)) ^^^ (-1)))]) (st' := s1) (fun _ h => h) ?_
        rw [andn_I (by omega) (by omega)]
        refine w_blk 2 (pc' := 85) (ls' := [some (.ref 42), some (.ref 13), some (.int (nI q)), some (.int (nI t)), some (.int (nI (A - 1))), some (.int (nI (2 * i + 1))), some (.int (nI (andn (A - 1) (2 * i + 1))))]) (sk' := [.int (nI (andn (A - 1) (2 * i + 1)))]) (st' := s1) (fun _ h => h) ?_
        refine w_if_ne rfl (fun h2 => ?_) (fun h2 => ?_)
        · replace h2 : ¬ (andn (A - 1) (2 * i + 1) = 0) := fun hh => h2 ((nI_eq (a := (andn (A - 1) (2 * i + 1))) (b := 0) (by omega) (by omega)).mpr hh)
          refine w_blk 2 (pc' := 101) (ls' := [some (.ref 42), some (.ref 13), some (.int (nI q)), some (.int (nI t)), some (.int (nI (A - 1))), some (.int (nI (2 * i + 1))), some (.int (nI (andn (A - 1) (2 * i + 1))))]) (sk' := [.int 2, .int (nI q)]) (st' := s1) (fun _ h => h) ?_
          refine w_cmp_ne rfl (fun h3 => ?_) (fun h3 => ?_)
          · replace h3 : ¬ (q = 2) := fun hh => h3 ((nI_eq (a := q) (b := 2) (by omega) (by omega)).mpr hh)
            refine w_blk 2 (pc' := 118) (ls' := [some (.ref 42), some (.ref 13), some (.int (nI q)), some (.int (nI t)), some (.int (nI (A - 1))), some (.int (nI (2 * i + 1))), some (.int (nI (andn (A - 1) (2 * i + 1))))]) (sk' := [.int 3, .int (nI q)]) (st' := s1) (fun _ h => h) ?_
            refine w_cmp_ne rfl (fun h4 => ?_) (fun h4 => ?_)
            · replace h4 : ¬ (q = 3) := fun hh => h4 ((nI_eq (a := q) (b := 3) (by omega) (by omega)).mpr hh)
              refine w_blk 1 (pc' := 132) (ls' := [some (.ref 42), some (.ref 13), some (.int (nI q)), some (.int (nI t)), some (.int (nI (A - 1))), some (.int ((nI (2 * i + 1)) + 2)), some (.int (nI (andn (A - 1) (2 * i + 1))))]) (sk' := []) (st' := s1) (fun _ h => h) ?_
              rw [show ((nI (2 * i + 1)) + 2) = nI ((2 * i + 1) + 2) from nI_add (2 * i + 1) 2]
              refine w_blk 1 (pc' := 67) (ls' := [some (.ref 42), some (.ref 13), some (.int (nI q)), some (.int (nI t)), some (.int (nI (A - 1))), some (.int (nI ((2 * i + 1) + 2))), some (.int (nI (andn (A - 1) (2 * i + 1))))]) (sk' := []) (st' := s1) (fun _ h => h) ?_
              exact ih (i + 1) T s1 _ (by omega) hf1 hW1 hT (by show SP (xL (A - 1) q i ++ cL (A - 1) q (2 * i + 1)) (kyF W) _; rw [show cL (A - 1) q (2 * i + 1) = [] from (if_neg h2).trans ((if_neg h3).trans (if_neg h4)), List.append_nil]; exact hSP)
            · replace h4 : q = 3 := (nI_eq (a := q) (b := 3) (by omega) (by omega)).mp (Decidable.not_not.mp h4)
              refine w_blk 3 (pc' := 126) (ls' := [some (.ref 42), some (.ref 13), some (.int (nI q)), some (.int (nI t)), some (.int (nI (A - 1))), some (.int (nI (2 * i + 1))), some (.int (nI (andn (A - 1) (2 * i + 1))))]) (sk' := [.int (nI (andn (A - 1) (2 * i + 1))), .int (nI (2 * i + 1)), .ref 42]) (st' := s1) (fun _ h => h) ?_
              obtain ⟨T9, s5, hc_6, hT_7, hS_10, hf_8⟩ := c_partRest (d + 0) A W T (xL (A - 1) q i) (2 * i + 1) (andn (A - 1) (2 * i + 1)) s1 hW1 hWb hA (by omega) (by omega) (by omega) hLt hT hSP
              refine w_callV (As := [.ref 42, .int (nI (2 * i + 1)), .int (nI (andn (A - 1) (2 * i + 1)))]) (rest := []) rfl rfl rfl (Nat.le_of_ble_eq_true rfl) (Nat.le_of_ble_eq_true rfl) (by first | exact Or.inl ⟨rfl, rfl⟩ | exact Or.inr ⟨rfl, rfl⟩) hc_6 ?_
              refine w_blk 1 (pc' := 132) (ls' := [some (.ref 42), some (.ref 13), some (.int (nI q)), some (.int (nI t)), some (.int (nI (A - 1))), some (.int ((nI (2 * i + 1)) + 2)), some (.int (nI (andn (A - 1) (2 * i + 1))))]) (sk' := []) (st' := s5) (fun _ h => h) ?_
              rw [show ((nI (2 * i + 1)) + 2) = nI ((2 * i + 1) + 2) from nI_add (2 * i + 1) 2]
              refine w_blk 1 (pc' := 67) (ls' := [some (.ref 42), some (.ref 13), some (.int (nI q)), some (.int (nI t)), some (.int (nI (A - 1))), some (.int (nI ((2 * i + 1) + 2))), some (.int (nI (andn (A - 1) (2 * i + 1))))]) (sk' := []) (st' := s5) (fun _ h => h) ?_
              exact ih (i + 1) _ s5 _ (by omega) (Fr.trans hf1 (Fr.mono hf_8 (by decide))) (fun j hj => by rw [hf_8.1 43 (by decide)]; exact hW1 j hj) hT_7 (by show SP (xL (A - 1) q i ++ cL (A - 1) q (2 * i + 1)) (kyF W) _; rw [show cL (A - 1) q (2 * i + 1) = jL (2 * i + 1) (andn (A - 1) (2 * i + 1)) (low (andn (A - 1) (2 * i + 1))) (andn (A - 1) (2 * i + 1) - low (andn (A - 1) (2 * i + 1)) + 1) from (if_neg h2).trans ((if_neg h3).trans (if_pos h4))]; exact hS_10)
          · replace h3 : q = 2 := (nI_eq (a := q) (b := 2) (by omega) (by omega)).mp (Decidable.not_not.mp h3)
            refine w_blk 4 (pc' := 110) (ls' := [some (.ref 42), some (.ref 13), some (.int (nI q)), some (.int (nI t)), some (.int (nI (A - 1))), some (.int (nI (2 * i + 1))), some (.int (nI (andn (A - 1) (2 * i + 1))))]) (sk' := [.int 0, .int (nI (andn (A - 1) (2 * i + 1))), .int (nI (2 * i + 1)), .ref 42]) (st' := s1) (fun _ h => h) ?_
            obtain ⟨s11, hc_12, hT_13, hf_14⟩ := c_offer (d + 1) A W T (2 * i + 1) (andn (A - 1) (2 * i + 1)) 0 s1 hW1 hWb hA (by omega) (by omega) (by omega) hT
            refine w_callV (As := [.ref 42, .int (nI (2 * i + 1)), .int (nI (andn (A - 1) (2 * i + 1))), .int 0]) (rest := []) rfl rfl rfl (Nat.le_of_ble_eq_true rfl) (Nat.le_of_ble_eq_true rfl) (by first | exact Or.inl ⟨rfl, rfl⟩ | exact Or.inr ⟨rfl, rfl⟩) hc_12 ?_
            refine w_blk 2 (pc' := 132) (ls' := [some (.ref 42), some (.ref 13), some (.int (nI q)), some (.int (nI t)), some (.int (nI (A - 1))), some (.int ((nI (2 * i + 1)) + 2)), some (.int (nI (andn (A - 1) (2 * i + 1))))]) (sk' := []) (st' := s11) (fun _ h => h) ?_
            rw [show ((nI (2 * i + 1)) + 2) = nI ((2 * i + 1) + 2) from nI_add (2 * i + 1) 2]
            refine w_blk 1 (pc' := 67) (ls' := [some (.ref 42), some (.ref 13), some (.int (nI q)), some (.int (nI t)), some (.int (nI (A - 1))), some (.int (nI ((2 * i + 1) + 2))), some (.int (nI (andn (A - 1) (2 * i + 1))))]) (sk' := []) (st' := s11) (fun _ h => h) ?_
            exact ih (i + 1) _ s11 _ (by omega) (Fr.trans hf1 (Fr.mono hf_14 (by decide))) (fun j hj => by rw [hf_14.1 43 (by decide)]; exact hW1 j hj) hT_13 (by show SP (xL (A - 1) q i ++ cL (A - 1) q (2 * i + 1)) (kyF W) _; rw [show cL (A - 1) q (2 * i + 1) = [(2 * i + 1) * 4096 + andn (A - 1) (2 * i + 1) * 64 + 0] from (if_neg h2).trans (if_pos h3)]; exact SP_stX hSP (fun x hx => by have := hLt x hx; omega))
        · replace h2 : andn (A - 1) (2 * i + 1) = 0 := (nI_eq (a := (andn (A - 1) (2 * i + 1))) (b := 0) (by omega) (by omega)).mp (Decidable.not_not.mp h2)
          refine w_blk 4 (pc' := 93) (ls' := [some (.ref 42), some (.ref 13), some (.int (nI q)), some (.int (nI t)), some (.int (nI (A - 1))), some (.int (nI (2 * i + 1))), some (.int (nI (andn (A - 1) (2 * i + 1))))]) (sk' := [.int 0, .int 0, .int (nI (2 * i + 1)), .ref 42]) (st' := s1) (fun _ h => h) ?_
          obtain ⟨s15, hc_16, hT_17, hf_18⟩ := c_offer (d + 1) A W T (2 * i + 1) 0 0 s1 hW1 hWb hA (by omega) (by omega) (by omega) hT
          refine w_callV (As := [.ref 42, .int (nI (2 * i + 1)), .int 0, .int 0]) (rest := []) rfl rfl rfl (Nat.le_of_ble_eq_true rfl) (Nat.le_of_ble_eq_true rfl) (by first | exact Or.inl ⟨rfl, rfl⟩ | exact Or.inr ⟨rfl, rfl⟩) hc_16 ?_
          refine w_blk 2 (pc' := 132) (ls' := [some (.ref 42), some (.ref 13), some (.int (nI q)), some (.int (nI t)), some (.int (nI (A - 1))), some (.int ((nI (2 * i + 1)) + 2)), some (.int (nI (andn (A - 1) (2 * i + 1))))]) (sk' := []) (st' := s15) (fun _ h => h) ?_
          rw [show ((nI (2 * i + 1)) + 2) = nI ((2 * i + 1) + 2) from nI_add (2 * i + 1) 2]
          refine w_blk 1 (pc' := 67) (ls' := [some (.ref 42), some (.ref 13), some (.int (nI q)), some (.int (nI t)), some (.int (nI (A - 1))), some (.int (nI ((2 * i + 1) + 2))), some (.int (nI (andn (A - 1) (2 * i + 1))))]) (sk' := []) (st' := s15) (fun _ h => h) ?_
          exact ih (i + 1) _ s15 _ (by omega) (Fr.trans hf1 (Fr.mono hf_18 (by decide))) (fun j hj => by rw [hf_18.1 43 (by decide)]; exact hW1 j hj) hT_17 (by show SP (xL (A - 1) q i ++ cL (A - 1) q (2 * i + 1)) (kyF W) _; rw [show cL (A - 1) q (2 * i + 1) = [(2 * i + 1) * 4096 + 0 * 64 + 0] from if_pos h2]; exact SP_stX hSP (fun x hx => by have := hLt x hx; omega))
    · replace h1 : A - 1 = 0 := (nI_eq (a := (A - 1)) (b := 0) (by omega) (by omega)).mp (Decidable.not_not.mp h1)
      refine w_blk 3 (pc' := 64) (ls' := [some (.ref 42), some (.ref 13), some (.int (nI q)), some (.int (nI t)), some (.int (nI (A - 1))), some (.int (nI A)), none]) (sk' := []) (st' := ((mU s0.1 42 0 0), s0.2)) (fun _ h => h) ?_
      refine w_blk 4 (pc' := 71) (ls' := [some (.ref 42), some (.ref 13), some (.int (nI q)), some (.int (nI t)), some (.int (nI (A - 1))), some (.int 1), none]) (sk' := [.int (nI (A - 1)), .int 1]) (st' := ((mU s0.1 42 0 0), s0.2)) (fun _ h => h) ?_
      refine w_cmp_gt rfl (fun _ => ?_) (fun hno => absurd (nI_lt (a := A - 1) (b := 1) (by omega) (by omega)) hno)
      have hn0 : n 0 = 0 := by by_cases e : 1 ≤ n 0; (· have := hA2 e; have := Nat.two_pow_pos (n 0 - 1); omega); (· omega)
      exact w_vret rfl rfl (hq none _ ⟨Or.inl ⟨hn0, rfl⟩, Fr.trans hf (Fr.mU (by decide))⟩)
  | succ m ih =>
    intro k s0 hk hf hW
    have hk2 : k < A := by omega
    have hX0 : X13 s0 n c := X13_fr hf (by decide) hX
    refine w_blk 2 (pc' := 17) (ls' := [some (.ref 42), some (.ref 13), some (.int (nI q)), some (.int (nI t)), some (.int (nI (A - 1))), some (.int (nI k)), none]) (sk' := [.int (nI (A - 1)), .int (nI k)]) (st' := s0) (fun _ h => h) ?_
    refine w_cmp_gt rfl (fun hno => absurd hno (fun hh => absurd ((nI_ltI (by omega) (by omega)).mp hh) (by omega))) (fun _ => ?_)
    refine w_blk 4 (pc' := 27) (ls' := [some (.ref 42), some (.ref 13), some (.int (nI q)), some (.int (nI t)), some (.int (nI (A - 1))), some (.int (nI k)), none]) (sk' := [.int (Int32.ofNat 64), .int (nI k)]) (st' := s0) (fun _ h => h) ?_
    rw [show (Int32.ofNat 64) = nI 64 from rfl]
    refine w_cmp_ge rfl (fun hno => absurd hno (nI_ge (by omega) (by omega))) (fun _ => ?_)
    refine w_blk 6 (pc' := 40) (ls' := [some (.ref 42), some (.ref 13), some (.int (nI q)), some (.int (nI t)), some (.int (nI (A - 1))), some (.int (nI k)), none]) (sk' := [.int (nI t), .int (nI k), .ref 13, .int (nI k), .ref 43]) (st' := s0) (fun _ h => h) ?_
    refine w_callS (As := [.ref 13, .int (nI k), .int (nI t)]) (rest := [.int (nI k), .ref 43]) rfl rfl rfl (Nat.le_of_ble_eq_true rfl) (Nat.le_of_ble_eq_true rfl) (c_weigh_13 (d + 1) n c t k s0 hX0 hB (by omega) (by omega)) ?_
    refine w_iast rfl rfl (vp_in_nI (n := k) (N := 64) (by omega) (by decide)) ?_
    rw [nI_clamp (show k < 2 ^ 31 by omega)]
    refine w_blk 1 (pc' := 47) (ls' := [some (.ref 42), some (.ref 13), some (.int (nI q)), some (.int (nI t)), some (.int (nI (A - 1))), some (.int ((nI k) + 1)), none]) (sk' := []) (st' := ((mU s0.1 43 k (nI (wgt n c t k))), s0.2)) (fun _ h => h) ?_
    rw [show ((nI k) + 1) = nI (k + 1) from nI_add k 1]
    refine w_blk 1 (pc' := 13) (ls' := [some (.ref 42), some (.ref 13), some (.int (nI q)), some (.int (nI t)), some (.int (nI (A - 1))), some (.int (nI (k + 1))), none]) (sk' := []) (st' := ((mU s0.1 43 k (nI (wgt n c t k))), s0.2)) (fun _ h => h) ?_
    exact ih (k + 1) ((mU s0.1 43 k (nI (wgt n c t k))), s0.2) (by omega) (Fr.trans hf (Fr.mU (by decide))) (fun j hj => if ej : j = k then (by rw [ej]; exact mU_at (f := s0.1) (p := 43) (k := k)) else (mU_row ej).trans (hW j (by omega)))
set_option maxRecDepth 20000 in
/-- ringOf(d) -/
theorem c_ringOf (d : Nat) (F : Nat → Nat) (b d0 : Nat) (st : mSt) (hT : PXr st F (some b)) (hd : d0 < 6) (hb : b < 262144) : mMC mT (d + 2) 57 [.ref 42, .int (nI d0)] st (some (.int (nI (anX b d0)))) st := by
  refine mI_X6_ringOf (d := d + 1) (Nat.le_of_ble_eq_true rfl) (fun Q hq => ?_)
  show mW (mMC mT (d + 1)) (0, fun _ => 0) (mAtL P_X6_ringOf) (some .int) Q 0 [some (.ref 42), some (.int (nI d0))] [] st
  have h64a : b / 4096 < 64 := by omega
  have h64b : b / 64 % 64 < 64 := by omega
  refine w_blk 2 (pc' := 4) (ls' := [some (.ref 42), some (.int (nI d0))]) (sk' := [.int (st.1 42 1)]) (st' := st) (fun _ h => h) ?_
  rw [hT.2.1]
  refine w_blk 1 (pc' := 5) (ls' := [some (.ref 42), some (.int (nI d0))]) (sk' := [.int (nI d0), .int (nI (b / 4096))]) (st' := st) (fun _ h => h) ?_
  refine w_callS (As := [.int (nI (b / 4096)), .int (nI d0)]) (rest := []) rfl rfl rfl (Nat.le_of_ble_eq_true rfl) (Nat.le_of_ble_eq_true rfl) (c_hasBit (d + 0) (nI (b / 4096)) (nI d0) st) ?_
  rw [show (pI (bitP (nI (b / 4096)) (nI d0))) = pI (Nat.testBit (b / 4096) d0 = true) from pI_cong (bitP_nI (n := b / 4096) (k := d0) (by omega) (by omega))]
  refine w_if_eq rfl (fun h1 => ?_) (fun h1 => ?_)
  · replace h1 := pI_eq0.mp h1
    refine w_blk 2 (pc' := 20) (ls' := [some (.ref 42), some (.int (nI d0))]) (sk' := [.int (st.1 42 2)]) (st' := st) (fun _ h => h) ?_
    rw [hT.2.2.1]
    refine w_blk 1 (pc' := 21) (ls' := [some (.ref 42), some (.int (nI d0))]) (sk' := [.int (nI d0), .int (nI (b / 64 % 64))]) (st' := st) (fun _ h => h) ?_
    refine w_callS (As := [.int (nI (b / 64 % 64)), .int (nI d0)]) (rest := []) rfl rfl rfl (Nat.le_of_ble_eq_true rfl) (Nat.le_of_ble_eq_true rfl) (c_hasBit (d + 0) (nI (b / 64 % 64)) (nI d0) st) ?_
    rw [show (pI (bitP (nI (b / 64 % 64)) (nI d0))) = pI (Nat.testBit (b / 64 % 64) d0 = true) from pI_cong (bitP_nI (n := b / 64 % 64) (k := d0) (by omega) (by omega))]
    refine w_if_eq rfl (fun h2 => ?_) (fun h2 => ?_)
    · replace h2 := pI_eq0.mp h2
      refine w_blk 2 (pc' := 38) (ls' := [some (.ref 42), some (.int (nI d0))]) (sk' := [.int (st.1 42 3)]) (st' := st) (fun _ h => h) ?_
      rw [hT.2.2.2]
      rw [show anX b d0 = b % 64 from (if_neg h1).trans (if_neg h2)] at hq
      exact w_iret rfl rfl rfl hq
    · replace h2 := pI_ne.mp h2
      refine w_blk 2 (pc' := 31) (ls' := [some (.ref 42), some (.int (nI d0))]) (sk' := [.int (st.1 42 2)]) (st' := st) (fun _ h => h) ?_
      rw [hT.2.2.1]
      refine w_blk 1 (pc' := 38) (ls' := [some (.ref 42), some (.int (nI d0))]) (sk' := [.int (nI (b / 64 % 64))]) (st' := st) (fun _ h => h) ?_
      rw [show anX b d0 = b / 64 % 64 from (if_neg h1).trans (if_pos h2)] at hq
      exact w_iret rfl rfl rfl hq
  · replace h1 := pI_ne.mp h1
    refine w_blk 2 (pc' := 15) (ls' := [some (.ref 42), some (.int (nI d0))]) (sk' := [.int (st.1 42 1)]) (st' := st) (fun _ h => h) ?_
    rw [hT.2.1]
    rw [show anX b d0 = b / 4096 from if_pos h1] at hq
    exact w_iret rfl rfl rfl hq
theorem cL_big {all g ring x : Nat} (ha : all < 64) (hr : ring < 64) (h : x ∈ cL all g ring) : x < 262144 := Nat.lt_of_lt_of_le (cL_lt ha hr x h) (by omega)
theorem xL_big {all g x : Nat} (ha : all < 64) : ∀ i, i ≤ 32 → x ∈ xL all g i → x < 262144 := fun i hi h => by
  have := xL_lt ha i hi x h
  omega
theorem mL_sub {n g x : Nat} : ∀ i, x ∈ mL n g i → ∃ j, pK g j n = some x := by
  intro i
  induction i with
  | zero => exact fun h => absurd h (List.not_mem_nil)
  | succ i ih =>
    intro h
    rcases e : pK g i n with _ | k
    · rw [mL_none e] at h
      exact ih h
    · rw [mL_some e] at h
      rcases List.mem_append.mp h with h | h
      · exact ih h
      · rw [List.mem_singleton.mp h]
        exact ⟨i, e⟩
set_option maxRecDepth 20000 in
/-- rings -/
theorem x_rings_5 (d : Nat) (n : Nat → Nat) (c : Nat → Nat → Nat) (g t wh : Int32) (st : mSt) (hcw : st.1 0 1 = nI 5) (hX : X5 st n c) (hB : CB n c) : ∃ (r : Int32) (s : mSt), mMC mT (d + 5) 100 [.ref 0, .int g, .int t, .int wh] st (some (.int r)) s ∧ RGs n c g t wh r ∧ Fr [42, 43] st s := by
  suffices H : ∀ Q : Option Value → mSt → Prop, (∀ (r : Int32) (s : mSt), (RGs n c g t wh r ∧ Fr [42, 43] st s) → Q (some (.int r)) s) → mW (mMC mT (d + 4)) (0, fun _ => 0) (mAtL P_X9_rings) (some .int) Q 0 [some (.ref 0), some (.int g), some (.int t), some (.int wh)] [] st by
    obtain ⟨_, _, ⟨r, s, rfl, rfl, hp⟩, hw⟩ := mW_ex (H (fun vv tt => ∃ (r : Int32) (s : mSt),  vv = some (.int r) ∧ s = tt ∧ RGs n c g t wh r ∧ Fr [42, 43] st s) (fun r s hp => ⟨r, s, rfl, rfl, hp⟩))
    exact ⟨r, s, mI_X9_rings (d := d + 4) (Nat.le_of_ble_eq_true rfl) hw, hp⟩
  intro Q hq
  have hcr : (st.1 0 1).toNatClampNeg = 5 := by rw [hcw]; rfl
  obtain ⟨hb0, hb1, hb2, hbd, hbs, hby⟩ := id hB
  refine w_blk 3 (pc' := 3) (ls' := [some (.ref 0), some (.int g), some (.int t), some (.int wh)]) (sk' := [.int 3, .int 1, .int g]) (st' := st) (fun _ h => h) ?_
  refine w_callS (As := [.int g, .int 1, .int 3]) (rest := []) rfl rfl rfl (Nat.le_of_ble_eq_true rfl) (Nat.le_of_ble_eq_true rfl) (c_within (d + 3) g 1 3 st) ?_
  refine w_if_eq rfl (fun h1 => ?_) (fun h1 => ?_)
  · replace h1 := pI_eq0.mp h1
    refine w_blk 1 (pc' := 36) (ls' := [some (.ref 0), some (.int g), some (.int t), some (.int wh)]) (sk' := [.int (-1)]) (st' := st) (fun _ h => h) ?_
    have hno : ¬ ((1 ≤ g ∧ g ≤ 3) ∧ (1 ≤ t ∧ t ≤ 999) ∧ (0 ≤ wh ∧ wh ≤ nI (n 0))) := fun hh => by first | exact h1 hh.1 | exact h2 hh.2.1 | exact h3 hh.2.2
    exact w_iret rfl rfl rfl (hq _ st ⟨(if_neg hno : RGs n c g t wh (-1) = ((-1 : Int32) = -1)).mpr rfl, Fr.rf⟩)
  · replace h1 := pI_ne.mp h1
    refine w_blk 3 (pc' := 14) (ls' := [some (.ref 0), some (.int g), some (.int t), some (.int wh)]) (sk' := [.int 999, .int 1, .int t]) (st' := st) (fun _ h => h) ?_
    refine w_callS (As := [.int t, .int 1, .int 999]) (rest := []) rfl rfl rfl (Nat.le_of_ble_eq_true rfl) (Nat.le_of_ble_eq_true rfl) (c_within (d + 3) t 1 999 st) ?_
    refine w_if_eq rfl (fun h2 => ?_) (fun h2 => ?_)
    · replace h2 := pI_eq0.mp h2
      refine w_blk 1 (pc' := 36) (ls' := [some (.ref 0), some (.int g), some (.int t), some (.int wh)]) (sk' := [.int (-1)]) (st' := st) (fun _ h => h) ?_
      have hno : ¬ ((1 ≤ g ∧ g ≤ 3) ∧ (1 ≤ t ∧ t ≤ 999) ∧ (0 ≤ wh ∧ wh ≤ nI (n 0))) := fun hh => by first | exact h1 hh.1 | exact h2 hh.2.1 | exact h3 hh.2.2
      exact w_iret rfl rfl rfl (hq _ st ⟨(if_neg hno : RGs n c g t wh (-1) = ((-1 : Int32) = -1)).mpr rfl, Fr.rf⟩)
    · replace h2 := pI_ne.mp h2
      refine w_blk 3 (pc' := 23) (ls' := [some (.ref 0), some (.int g), some (.int t), some (.int wh)]) (sk' := [.ref 0, .int 0, .int wh]) (st' := st) (fun _ h => h) ?_
      refine w_blk 1 (pc' := 26) (ls' := [some (.ref 0), some (.int g), some (.int t), some (.int wh)]) (sk' := [.ref (Int32.toNatClampNeg (st.1 0 1)), .int 0, .int wh]) (st' := st) (fun _ h => h) ?_
      rw [show Int32.toNatClampNeg (st.1 0 1) = 5 from hcr]
      refine w_blk 1 (pc' := 29) (ls' := [some (.ref 0), some (.int g), some (.int t), some (.int wh)]) (sk' := [.int (st.1 5 0), .int 0, .int wh]) (st' := st) (fun _ h => h) ?_
      rw [hX.1]
      refine w_callS (As := [.int wh, .int 0, .int (nI (n 0))]) (rest := []) rfl rfl rfl (Nat.le_of_ble_eq_true rfl) (Nat.le_of_ble_eq_true rfl) (c_within (d + 3) wh 0 (nI (n 0)) st) ?_
      refine w_if_ne rfl (fun h3 => ?_) (fun h3 => ?_)
      · replace h3 := pI_ne.mp h3
        have hok : (1 ≤ g ∧ g ≤ 3) ∧ (1 ≤ t ∧ t ≤ 999) ∧ (0 ≤ wh ∧ wh ≤ nI (n 0)) := ⟨h1, h2, h3⟩
        obtain ⟨q, hq1, hq3, rfl⟩ := nI_within (a := 1) (b := 3) h1 (by decide) (by decide)
        obtain ⟨t', ht1, ht9, rfl⟩ := nI_within (a := 1) (b := 999) h2 (by decide) (by decide)
        obtain ⟨w', -, hw6, rfl⟩ := nI_within (a := 0) (b := n 0) h3 (by decide) (by omega)
        have ec1 := nI_clamp (show q < 2 ^ 31 by omega)
        have ec2 := nI_clamp (show t' < 2 ^ 31 by omega)
        have ec3 := nI_clamp (show w' < 2 ^ 31 by omega)
        refine w_blk 3 (pc' := 42) (ls' := [some (.ref 0), some (.int (nI q)), some (.int (nI t')), some (.int (nI w'))]) (sk' := [.ref 0, .ref 42]) (st' := st) (fun _ h => h) ?_
        refine w_blk 1 (pc' := 45) (ls' := [some (.ref 0), some (.int (nI q)), some (.int (nI t')), some (.int (nI w'))]) (sk' := [.ref (Int32.toNatClampNeg (st.1 0 1)), .ref 42]) (st' := st) (fun _ h => h) ?_
        rw [show Int32.toNatClampNeg (st.1 0 1) = 5 from hcr]
        refine w_blk 2 (pc' := 47) (ls' := [some (.ref 0), some (.int (nI q)), some (.int (nI t')), some (.int (nI w'))]) (sk' := [.int (nI t'), .int (nI q), .ref 5, .ref 42]) (st' := st) (fun _ h => h) ?_
        obtain ⟨T5, s1, hc_2, hT_3, hf_4⟩ := c_part_5 (d + 0) n c q t' st hX hB (by omega) (by omega)
        refine w_callV (As := [.ref 42, .ref 5, .int (nI q), .int (nI t')]) (rest := []) rfl rfl rfl (Nat.le_of_ble_eq_true rfl) (Nat.le_of_ble_eq_true rfl) (by first | exact Or.inl ⟨rfl, rfl⟩ | exact Or.inr ⟨rfl, rfl⟩) hc_2 ?_
        refine w_blk 1 (pc' := 51) (ls' := [some (.ref 0), some (.int (nI q)), some (.int (nI t')), some (.int (nI w'))]) (sk' := [.int (nI w')]) (st' := s1) (fun _ h => h) ?_
        rcases hT_3 with ⟨hz, hb⟩ | ⟨hz, hb, hsp⟩
        · obtain rfl : 0 = w' := by omega
          refine w_if_ne rfl (fun hno => absurd hno (fun hh => hh rfl)) (fun _ => ?_)
          refine w_blk 3 (pc' := 61) (ls' := [some (.ref 0), some (.int (nI q)), some (.int (nI t')), some (.int (nI 0))]) (sk' := [.int (s1.1 42 0)]) (st' := s1) (fun _ h => h) ?_
          rw [hb]
          refine w_blk 1 (pc' := 74) (ls' := [some (.ref 0), some (.int (nI q)), some (.int (nI t')), some (.int (nI 0))]) (sk' := [.int 0]) (st' := s1) (fun _ h => h) ?_
          exact w_iret rfl rfl rfl (hq _ s1 ⟨(if_pos hok : RGs n c (nI q) (nI t') (nI 0) _ = _).mpr ⟨0, by rw [show LLr (n 0) (nI q).toNatClampNeg = [0] from if_pos hz]; exact ⟨List.mem_singleton.mpr rfl, fun k hk => Or.inr ⟨by rw [List.mem_singleton.mp hk], Nat.zero_le _⟩⟩, by rw [if_pos (show nI 0 = (0 : Int32) from rfl)]; unfold kyF wgt; rw [hz]; rfl⟩, hf_4⟩)
        · have hch := chkR_use (n := n 0) (g := q) (by omega) hz (by omega) (by omega)
          rcases T5 with _ | b
          · exact absurd hsp hch.2.2
          · have hb18 : b < 262144 := xL_big (by have := Nat.pow_le_pow_right (n := 2) (by decide) hb0; omega) _ (show 2 ^ (n 0 - 1) ≤ 32 from Nat.pow_le_pow_right (n := 2) (j := 5) (by decide) (by omega)) hsp.1
            have hLL : LLr (n 0) (nI q).toNatClampNeg = xL (2 ^ n 0 - 1) q (2 ^ (n 0 - 1)) := by rw [ec1]; exact if_neg (by omega)
            refine w_if_ne rfl (fun h4 => ?_) (fun h4 => ?_)
            · replace h4 : ¬ (w' = 0) := fun hh => h4 ((nI_eq (a := w') (b := 0) (by omega) (by omega)).mpr hh)
              refine w_blk 5 (pc' := 71) (ls' := [some (.ref 0), some (.int (nI q)), some (.int (nI t')), some (.int (nI w'))]) (sk' := [.int ((nI w') - 1), .ref 42]) (st' := s1) (fun _ h => h) ?_
              rw [show ((nI w') - 1) = nI (w' - 1) from pk_sub (a := w') (b := 1) (by omega)]
              refine w_callV (As := [.ref 42, .int (nI (w' - 1))]) (rest := []) rfl rfl rfl (Nat.le_of_ble_eq_true rfl) (Nat.le_of_ble_eq_true rfl) (by first | exact Or.inl ⟨rfl, rfl⟩ | exact Or.inr ⟨rfl, rfl⟩) (c_ringOf (d + 2) (kyF (wgt n c t')) b (w' - 1) s1 hb (by omega) hb18) ?_
              exact w_iret rfl rfl rfl (hq _ s1 ⟨(if_pos hok : RGs n c (nI q) (nI t') (nI w') _ = _).mpr ⟨b, by rw [hLL, ec2]; exact hsp, by rw [ec3, if_neg (show ¬ nI w' = (0 : Int32) from fun e => h4 ((nI_eq (a := w') (b := 0) (by omega) (by omega)).mp e))]⟩, hf_4⟩)
            · replace h4 : w' = 0 := (nI_eq (a := w') (b := 0) (by omega) (by omega)).mp (Decidable.not_not.mp h4)
              refine w_blk 3 (pc' := 61) (ls' := [some (.ref 0), some (.int (nI q)), some (.int (nI t')), some (.int (nI w'))]) (sk' := [.int (s1.1 42 0)]) (st' := s1) (fun _ h => h) ?_
              rw [hb.1]
              refine w_blk 1 (pc' := 74) (ls' := [some (.ref 0), some (.int (nI q)), some (.int (nI t')), some (.int (nI w'))]) (sk' := [.int (nI (kyF (wgt n c t') b))]) (st' := s1) (fun _ h => h) ?_
              exact w_iret rfl rfl rfl (hq _ s1 ⟨(if_pos hok : RGs n c (nI q) (nI t') (nI w') _ = _).mpr ⟨b, by rw [hLL, ec2]; exact hsp, by rw [ec2, if_pos (show nI w' = 0 from (nI_eq (a := w') (b := 0) (by omega) (by omega)).mpr h4)]⟩, hf_4⟩)
      · replace h3 := pI_eq0.mp (Decidable.not_not.mp h3)
        refine w_blk 1 (pc' := 36) (ls' := [some (.ref 0), some (.int g), some (.int t), some (.int wh)]) (sk' := [.int (-1)]) (st' := st) (fun _ h => h) ?_
        have hno : ¬ ((1 ≤ g ∧ g ≤ 3) ∧ (1 ≤ t ∧ t ≤ 999) ∧ (0 ≤ wh ∧ wh ≤ nI (n 0))) := fun hh => by first | exact h1 hh.1 | exact h2 hh.2.1 | exact h3 hh.2.2
        exact w_iret rfl rfl rfl (hq _ st ⟨(if_neg hno : RGs n c g t wh (-1) = ((-1 : Int32) = -1)).mpr rfl, Fr.rf⟩)
set_option maxRecDepth 20000 in
/-- rings -/
theorem x_rings_13 (d : Nat) (n : Nat → Nat) (c : Nat → Nat → Nat) (g t wh : Int32) (st : mSt) (hcw : st.1 0 1 = nI 13) (hX : X13 st n c) (hB : CB n c) : ∃ (r : Int32) (s : mSt), mMC mT (d + 5) 100 [.ref 0, .int g, .int t, .int wh] st (some (.int r)) s ∧ RGs n c g t wh r ∧ Fr [42, 43] st s := by
  suffices H : ∀ Q : Option Value → mSt → Prop, (∀ (r : Int32) (s : mSt), (RGs n c g t wh r ∧ Fr [42, 43] st s) → Q (some (.int r)) s) → mW (mMC mT (d + 4)) (0, fun _ => 0) (mAtL P_X9_rings) (some .int) Q 0 [some (.ref 0), some (.int g), some (.int t), some (.int wh)] [] st by
    obtain ⟨_, _, ⟨r, s, rfl, rfl, hp⟩, hw⟩ := mW_ex (H (fun vv tt => ∃ (r : Int32) (s : mSt),  vv = some (.int r) ∧ s = tt ∧ RGs n c g t wh r ∧ Fr [42, 43] st s) (fun r s hp => ⟨r, s, rfl, rfl, hp⟩))
    exact ⟨r, s, mI_X9_rings (d := d + 4) (Nat.le_of_ble_eq_true rfl) hw, hp⟩
  intro Q hq
  have hcr : (st.1 0 1).toNatClampNeg = 13 := by rw [hcw]; rfl
  obtain ⟨hb0, hb1, hb2, hbd, hbs, hby⟩ := id hB
  refine w_blk 3 (pc' := 3) (ls' := [some (.ref 0), some (.int g), some (.int t), some (.int wh)]) (sk' := [.int 3, .int 1, .int g]) (st' := st) (fun _ h => h) ?_
  refine w_callS (As := [.int g, .int 1, .int 3]) (rest := []) rfl rfl rfl (Nat.le_of_ble_eq_true rfl) (Nat.le_of_ble_eq_true rfl) (c_within (d + 3) g 1 3 st) ?_
  refine w_if_eq rfl (fun h1 => ?_) (fun h1 => ?_)
  · replace h1 := pI_eq0.mp h1
    refine w_blk 1 (pc' := 36) (ls' := [some (.ref 0), some (.int g), some (.int t), some (.int wh)]) (sk' := [.int (-1)]) (st' := st) (fun _ h => h) ?_
    have hno : ¬ ((1 ≤ g ∧ g ≤ 3) ∧ (1 ≤ t ∧ t ≤ 999) ∧ (0 ≤ wh ∧ wh ≤ nI (n 0))) := fun hh => by first | exact h1 hh.1 | exact h2 hh.2.1 | exact h3 hh.2.2
    exact w_iret rfl rfl rfl (hq _ st ⟨(if_neg hno : RGs n c g t wh (-1) = ((-1 : Int32) = -1)).mpr rfl, Fr.rf⟩)
  · replace h1 := pI_ne.mp h1
    refine w_blk 3 (pc' := 14) (ls' := [some (.ref 0), some (.int g), some (.int t), some (.int wh)]) (sk' := [.int 999, .int 1, .int t]) (st' := st) (fun _ h => h) ?_
    refine w_callS (As := [.int t, .int 1, .int 999]) (rest := []) rfl rfl rfl (Nat.le_of_ble_eq_true rfl) (Nat.le_of_ble_eq_true rfl) (c_within (d + 3) t 1 999 st) ?_
    refine w_if_eq rfl (fun h2 => ?_) (fun h2 => ?_)
    · replace h2 := pI_eq0.mp h2
      refine w_blk 1 (pc' := 36) (ls' := [some (.ref 0), some (.int g), some (.int t), some (.int wh)]) (sk' := [.int (-1)]) (st' := st) (fun _ h => h) ?_
      have hno : ¬ ((1 ≤ g ∧ g ≤ 3) ∧ (1 ≤ t ∧ t ≤ 999) ∧ (0 ≤ wh ∧ wh ≤ nI (n 0))) := fun hh => by first | exact h1 hh.1 | exact h2 hh.2.1 | exact h3 hh.2.2
      exact w_iret rfl rfl rfl (hq _ st ⟨(if_neg hno : RGs n c g t wh (-1) = ((-1 : Int32) = -1)).mpr rfl, Fr.rf⟩)
    · replace h2 := pI_ne.mp h2
      refine w_blk 3 (pc' := 23) (ls' := [some (.ref 0), some (.int g), some (.int t), some (.int wh)]) (sk' := [.ref 0, .int 0, .int wh]) (st' := st) (fun _ h => h) ?_
      refine w_blk 1 (pc' := 26) (ls' := [some (.ref 0), some (.int g), some (.int t), some (.int wh)]) (sk' := [.ref (Int32.toNatClampNeg (st.1 0 1)), .int 0, .int wh]) (st' := st) (fun _ h => h) ?_
      rw [show Int32.toNatClampNeg (st.1 0 1) = 13 from hcr]
      refine w_blk 1 (pc' := 29) (ls' := [some (.ref 0), some (.int g), some (.int t), some (.int wh)]) (sk' := [.int (st.1 13 0), .int 0, .int wh]) (st' := st) (fun _ h => h) ?_
      rw [hX.1]
      refine w_callS (As := [.int wh, .int 0, .int (nI (n 0))]) (rest := []) rfl rfl rfl (Nat.le_of_ble_eq_true rfl) (Nat.le_of_ble_eq_true rfl) (c_within (d + 3) wh 0 (nI (n 0)) st) ?_
      refine w_if_ne rfl (fun h3 => ?_) (fun h3 => ?_)
      · replace h3 := pI_ne.mp h3
        have hok : (1 ≤ g ∧ g ≤ 3) ∧ (1 ≤ t ∧ t ≤ 999) ∧ (0 ≤ wh ∧ wh ≤ nI (n 0)) := ⟨h1, h2, h3⟩
        obtain ⟨q, hq1, hq3, rfl⟩ := nI_within (a := 1) (b := 3) h1 (by decide) (by decide)
        obtain ⟨t', ht1, ht9, rfl⟩ := nI_within (a := 1) (b := 999) h2 (by decide) (by decide)
        obtain ⟨w', -, hw6, rfl⟩ := nI_within (a := 0) (b := n 0) h3 (by decide) (by omega)
        have ec1 := nI_clamp (show q < 2 ^ 31 by omega)
        have ec2 := nI_clamp (show t' < 2 ^ 31 by omega)
        have ec3 := nI_clamp (show w' < 2 ^ 31 by omega)
        refine w_blk 3 (pc' := 42) (ls' := [some (.ref 0), some (.int (nI q)), some (.int (nI t')), some (.int (nI w'))]) (sk' := [.ref 0, .ref 42]) (st' := st) (fun _ h => h) ?_
        refine w_blk 1 (pc' := 45) (ls' := [some (.ref 0), some (.int (nI q)), some (.int (nI t')), some (.int (nI w'))]) (sk' := [.ref (Int32.toNatClampNeg (st.1 0 1)), .ref 42]) (st' := st) (fun _ h => h) ?_
        rw [show Int32.toNatClampNeg (st.1 0 1) = 13 from hcr]
        refine w_blk 2 (pc' := 47) (ls' := [some (.ref 0), some (.int (nI q)), some (.int (nI t')), some (.int (nI w'))]) (sk' := [.int (nI t'), .int (nI q), .ref 13, .ref 42]) (st' := st) (fun _ h => h) ?_
        obtain ⟨T5, s1, hc_2, hT_3, hf_4⟩ := c_part_13 (d + 0) n c q t' st hX hB (by omega) (by omega)
        refine w_callV (As := [.ref 42, .ref 13, .int (nI q), .int (nI t')]) (rest := []) rfl rfl rfl (Nat.le_of_ble_eq_true rfl) (Nat.le_of_ble_eq_true rfl) (by first | exact Or.inl ⟨rfl, rfl⟩ | exact Or.inr ⟨rfl, rfl⟩) hc_2 ?_
        refine w_blk 1 (pc' := 51) (ls' := [some (.ref 0), some (.int (nI q)), some (.int (nI t')), some (.int (nI w'))]) (sk' := [.int (nI w')]) (st' := s1) (fun _ h => h) ?_
        rcases hT_3 with ⟨hz, hb⟩ | ⟨hz, hb, hsp⟩
        · obtain rfl : 0 = w' := by omega
          refine w_if_ne rfl (fun hno => absurd hno (fun hh => hh rfl)) (fun _ => ?_)
          refine w_blk 3 (pc' := 61) (ls' := [some (.ref 0), some (.int (nI q)), some (.int (nI t')), some (.int (nI 0))]) (sk' := [.int (s1.1 42 0)]) (st' := s1) (fun _ h => h) ?_
          rw [hb]
          refine w_blk 1 (pc' := 74) (ls' := [some (.ref 0), some (.int (nI q)), some (.int (nI t')), some (.int (nI 0))]) (sk' := [.int 0]) (st' := s1) (fun _ h => h) ?_
          exact w_iret rfl rfl rfl (hq _ s1 ⟨(if_pos hok : RGs n c (nI q) (nI t') (nI 0) _ = _).mpr ⟨0, by rw [show LLr (n 0) (nI q).toNatClampNeg = [0] from if_pos hz]; exact ⟨List.mem_singleton.mpr rfl, fun k hk => Or.inr ⟨by rw [List.mem_singleton.mp hk], Nat.zero_le _⟩⟩, by rw [if_pos (show nI 0 = (0 : Int32) from rfl)]; unfold kyF wgt; rw [hz]; rfl⟩, hf_4⟩)
        · have hch := chkR_use (n := n 0) (g := q) (by omega) hz (by omega) (by omega)
          rcases T5 with _ | b
          · exact absurd hsp hch.2.2
          · have hb18 : b < 262144 := xL_big (by have := Nat.pow_le_pow_right (n := 2) (by decide) hb0; omega) _ (show 2 ^ (n 0 - 1) ≤ 32 from Nat.pow_le_pow_right (n := 2) (j := 5) (by decide) (by omega)) hsp.1
            have hLL : LLr (n 0) (nI q).toNatClampNeg = xL (2 ^ n 0 - 1) q (2 ^ (n 0 - 1)) := by rw [ec1]; exact if_neg (by omega)
            refine w_if_ne rfl (fun h4 => ?_) (fun h4 => ?_)
            · replace h4 : ¬ (w' = 0) := fun hh => h4 ((nI_eq (a := w') (b := 0) (by omega) (by omega)).mpr hh)
              refine w_blk 5 (pc' := 71) (ls' := [some (.ref 0), some (.int (nI q)), some (.int (nI t')), some (.int (nI w'))]) (sk' := [.int ((nI w') - 1), .ref 42]) (st' := s1) (fun _ h => h) ?_
              rw [show ((nI w') - 1) = nI (w' - 1) from pk_sub (a := w') (b := 1) (by omega)]
              refine w_callV (As := [.ref 42, .int (nI (w' - 1))]) (rest := []) rfl rfl rfl (Nat.le_of_ble_eq_true rfl) (Nat.le_of_ble_eq_true rfl) (by first | exact Or.inl ⟨rfl, rfl⟩ | exact Or.inr ⟨rfl, rfl⟩) (c_ringOf (d + 2) (kyF (wgt n c t')) b (w' - 1) s1 hb (by omega) hb18) ?_
              exact w_iret rfl rfl rfl (hq _ s1 ⟨(if_pos hok : RGs n c (nI q) (nI t') (nI w') _ = _).mpr ⟨b, by rw [hLL, ec2]; exact hsp, by rw [ec3, if_neg (show ¬ nI w' = (0 : Int32) from fun e => h4 ((nI_eq (a := w') (b := 0) (by omega) (by omega)).mp e))]⟩, hf_4⟩)
            · replace h4 : w' = 0 := (nI_eq (a := w') (b := 0) (by omega) (by omega)).mp (Decidable.not_not.mp h4)
              refine w_blk 3 (pc' := 61) (ls' := [some (.ref 0), some (.int (nI q)), some (.int (nI t')), some (.int (nI w'))]) (sk' := [.int (s1.1 42 0)]) (st' := s1) (fun _ h => h) ?_
              rw [hb.1]
              refine w_blk 1 (pc' := 74) (ls' := [some (.ref 0), some (.int (nI q)), some (.int (nI t')), some (.int (nI w'))]) (sk' := [.int (nI (kyF (wgt n c t') b))]) (st' := s1) (fun _ h => h) ?_
              exact w_iret rfl rfl rfl (hq _ s1 ⟨(if_pos hok : RGs n c (nI q) (nI t') (nI w') _ = _).mpr ⟨b, by rw [hLL, ec2]; exact hsp, by rw [ec2, if_pos (show nI w' = 0 from (nI_eq (a := w') (b := 0) (by omega) (by omega)).mpr h4)]⟩, hf_4⟩)
      · replace h3 := pI_eq0.mp (Decidable.not_not.mp h3)
        refine w_blk 1 (pc' := 36) (ls' := [some (.ref 0), some (.int g), some (.int t), some (.int wh)]) (sk' := [.int (-1)]) (st' := st) (fun _ h => h) ?_
        have hno : ¬ ((1 ≤ g ∧ g ≤ 3) ∧ (1 ≤ t ∧ t ≤ 999) ∧ (0 ≤ wh ∧ wh ≤ nI (n 0))) := fun hh => by first | exact h1 hh.1 | exact h2 hh.2.1 | exact h3 hh.2.2
        exact w_iret rfl rfl rfl (hq _ st ⟨(if_neg hno : RGs n c g t wh (-1) = ((-1 : Int32) = -1)).mpr rfl, Fr.rf⟩)
