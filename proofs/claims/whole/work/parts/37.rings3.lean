/-! RINGS: the model -/
def eTr (F : Nat → Nat) : Option Nat → Int32
  | none => -1
  | some b => nI (F b)
theorem mL_ne {n g : Nat} (hn : n ≤ 6) (hg : g < 4) (hg0 : 0 < g) : mL n g 729 ≠ [] := by
  by_cases h : n = 0
  · rw [h]
    intro e
    have h1 := mL0 g hg hg0
    rw [e] at h1
    exact absurd h1 (by decide)
  · have hch := chkR_use (n := n) (g := g) (by omega) (by omega) hg hg0
    intro e
    have h3 := hch.2.2
    have h4 : ∀ k, k ∉ xL (2 ^ n - 1) g (2 ^ (n - 1)) := fun k hk => by
      have := (hch.1 k hk).1
      rw [e] at this
      exact absurd this (List.not_mem_nil)
    exact h3 (List.eq_nil_iff_forall_not_mem.mpr h4)
theorem SP_conv {n g : Nat} {F : Nat → Nat} {b : Nat} (hn : n ≤ 6) (hg : g < 4) (hg0 : 0 < g) (h : SP (mL n g 729) F (some b)) : SP (LLr n g) F (some b) ∧ ∀ d, d < n → anX b d = anM b d := by
  by_cases h0 : n = 0
  · have hb : b = 0 := by
      have h1 := mL0 g hg hg0
      rw [Bool.and_eq_true, List.all_eq_true] at h1
      have h2 := h.1
      rw [h0] at h2
      exact eq_of_beq (h1.1 b h2)
    refine ⟨?_, fun d hd => absurd hd (by omega)⟩
    rw [show LLr n g = [0] from if_pos h0, hb]
    exact ⟨List.mem_singleton.mpr rfl, fun k hk => Or.inr ⟨by rw [List.mem_singleton.mp hk], Nat.zero_le _⟩⟩
  · have hch := chkR_use (n := n) (g := g) (by omega) (by omega) hg hg0
    have hb := hch.2.1 b h.1
    rw [show LLr n g = xL (2 ^ n - 1) g (2 ^ (n - 1)) from if_neg h0]
    exact ⟨⟨hb, fun k hk => h.2 k (hch.1 k hk).1⟩, (hch.1 b hb).2⟩
set_option maxRecDepth 20000 in
/-- dugBy(b, t) -/
theorem m_dugBy (d : Nat) (n : Nat → Nat) (c : Nat → Nat → Nat) (t b : Nat) (st : mSt) (hR : MR st n c) (hB : CB n c) (ht : t ≤ 999) (hb : b < 64) : mMC mT (d + 1) 167 [.ref 53, .int (nI b), .int (nI t)] st (some (.int (nI (wgt n c t b)))) st := by
  refine mI_X10_dugBy (d := d + 0) (Nat.le_of_ble_eq_true rfl) (fun Q hq => ?_)
  show mW (mMC mT (d + 0)) (0, fun _ => 0) (mAtL P_X10_dugBy) (some .int) Q 0 [some (.ref 53), some (.int (nI b)), some (.int (nI t)), none, none, none, none] [] st
  obtain ⟨hb0, hb1, hb2, hbd, hbs, hby⟩ := id hB
  have hsl : ∀ k, k ≤ n 0 → slow (c 1) b k ≤ 9 := fun k hk => slow_le k (fun i hi => (hbd i (by omega)).2.2.2.1)
  have hst : ∀ k, k ≤ n 0 → str (c 0) b k ≤ 9 * k := fun k hk => str_le k (fun i hi => (hbd i (by omega)).2.1)
  refine w_blk 6 (pc' := 8) (ls' := [some (.ref 53), some (.int (nI b)), some (.int (nI t)), some (.int 0), some (.int 0), some (.int 0), none]) (sk' := []) (st' := st) (fun _ h => h) ?_
  have key : ∀ (m k : Nat), k + m = n 0 → ∀ (l6 : Option Value), mW (mMC mT (d + 0)) (0, fun _ => 0) (mAtL P_X10_dugBy) (some .int) Q 8 [some (.ref 53), some (.int (nI b)), some (.int (nI t)), some (.int (nI (slow (c 1) b k))), some (.int (nI (str (c 0) b k))), some (.int (nI k)), l6] [] st := by
    intro m
    induction m with
    | zero =>
      intro k hk l6
      obtain rfl : n 0 = k := by omega
      have e1 := hsl (n 0) (Nat.le_refl _)
      have e2 := hst (n 0) (Nat.le_refl _)
      refine w_blk 4 (pc' := 15) (ls' := [some (.ref 53), some (.int (nI b)), some (.int (nI t)), some (.int (nI (slow (c 1) b (n 0)))), some (.int (nI (str (c 0) b (n 0)))), some (.int (nI (n 0))), l6]) (sk' := [.int 0, .ref 55, .int (nI (n 0))]) (st' := st) (fun _ h => h) ?_
      refine w_iald rfl rfl (vp_in_nI (n := 0) (N := 2) (by decide) (by decide)) ?_
      rw [show Int32.toNatClampNeg (0 : Int32) = 0 from rfl]
      rw [hR.1]
      refine w_cmp_ge rfl (fun _ => ?_) (fun hno => absurd (Int32.le_refl _) hno)
      refine w_blk 1 (pc' := 92) (ls' := [some (.ref 53), some (.int (nI b)), some (.int (nI t)), some (.int (nI (slow (c 1) b (n 0)))), some (.int (nI (str (c 0) b (n 0)))), some (.int (nI (n 0))), l6]) (sk' := [.int (nI (slow (c 1) b (n 0)))]) (st' := st) (fun _ h => h) ?_
      refine w_if_ne rfl (fun h1 => ?_) (fun h1 => ?_)
      · replace h1 : ¬ (slow (c 1) b (n 0) = 0) := fun hh => h1 ((nI_eq (a := (slow (c 1) b (n 0))) (b := 0) (by omega) (by omega)).mpr hh)
        refine w_blk 2 (pc' := 101) (ls' := [some (.ref 53), some (.int (nI b)), some (.int (nI t)), some (.int (nI (slow (c 1) b (n 0)))), some (.int (nI (str (c 0) b (n 0)))), some (.int (nI (n 0))), l6]) (sk' := [.int (nI (slow (c 1) b (n 0))), .int (nI t)]) (st' := st) (fun _ h => h) ?_
        refine w_div rfl (nI_ne0 (n := slow (c 1) b (n 0)) (by omega) (by omega)) ?_
        rw [show ((nI t) / (nI (slow (c 1) b (n 0)))) = nI (t / (slow (c 1) b (n 0))) from pk_div (a := t) (d := slow (c 1) b (n 0)) (by omega) (by omega) (by omega)]
        refine w_blk 2 (pc' := 105) (ls' := [some (.ref 53), some (.int (nI b)), some (.int (nI t)), some (.int (nI (slow (c 1) b (n 0)))), some (.int (nI (str (c 0) b (n 0)))), some (.int (nI (n 0))), l6]) (sk' := [.int ((nI (t / (slow (c 1) b (n 0)))) * (nI (str (c 0) b (n 0))))]) (st' := st) (fun _ h => h) ?_
        rw [show ((nI (t / (slow (c 1) b (n 0)))) * (nI (str (c 0) b (n 0)))) = nI ((t / (slow (c 1) b (n 0))) * (str (c 0) b (n 0))) from pk_mul (t / (slow (c 1) b (n 0))) (str (c 0) b (n 0))]
        exact w_iret rfl rfl rfl hq
      · replace h1 : slow (c 1) b (n 0) = 0 := (nI_eq (a := (slow (c 1) b (n 0))) (b := 0) (by omega) (by omega)).mp (Decidable.not_not.mp h1)
        refine w_blk 2 (pc' := 105) (ls' := [some (.ref 53), some (.int (nI b)), some (.int (nI t)), some (.int (nI (slow (c 1) b (n 0)))), some (.int (nI (str (c 0) b (n 0)))), some (.int (nI (n 0))), l6]) (sk' := [.int 0]) (st' := st) (fun _ h => h) ?_
        rw [show nI (wgt n c t b) = 0 from congrArg nI (by unfold wgt; rw [h1, Nat.div_zero, Nat.zero_mul])] at hq
        exact w_iret rfl rfl rfl hq
    | succ m ih =>
      intro k hk l6
      have hk2 : k < n 0 := by omega
      have hsk := hsl k (by omega)
      have htk := hst k (by omega)
      have hpk := hbd k hk2
      refine w_blk 4 (pc' := 15) (ls' := [some (.ref 53), some (.int (nI b)), some (.int (nI t)), some (.int (nI (slow (c 1) b k))), some (.int (nI (str (c 0) b k))), some (.int (nI k)), l6]) (sk' := [.int 0, .ref 55, .int (nI k)]) (st' := st) (fun _ h => h) ?_
      refine w_iald rfl rfl (vp_in_nI (n := 0) (N := 2) (by decide) (by decide)) ?_
      rw [show Int32.toNatClampNeg (0 : Int32) = 0 from rfl]
      rw [hR.1]
      refine w_cmp_ge rfl (fun hno => absurd hno (nI_ge hk2 (by omega))) (fun _ => ?_)
      refine w_blk 5 (pc' := 25) (ls' := [some (.ref 53), some (.int (nI b)), some (.int (nI t)), some (.int (nI (slow (c 1) b k))), some (.int (nI (str (c 0) b k))), some (.int (nI k)), l6]) (sk' := [.int (((nI b) >>> ((nI k) &&& 31)) &&& 1)]) (st' := st) (fun _ h => h) ?_
      rw [show (((nI b) >>> ((nI k) &&& 31)) &&& 1) = pI (Nat.testBit b k = true) from nI_bit (by omega) (by omega)]
      refine w_blk 1 (pc' := 26) (ls' := [some (.ref 53), some (.int (nI b)), some (.int (nI t)), some (.int (nI (slow (c 1) b k))), some (.int (nI (str (c 0) b k))), some (.int (nI k)), l6]) (sk' := [.int 1, .int (pI (Nat.testBit b k = true))]) (st' := st) (fun _ h => h) ?_
      refine w_cmp_ne rfl (fun h1 => ?_) (fun h1 => ?_)
      · replace h1 := fun hh => h1 (pI_eq1.mpr hh)
        refine w_blk 3 (pc' := 38) (ls' := [some (.ref 53), some (.int (nI b)), some (.int (nI t)), some (.int (nI (slow (c 1) b k))), some (.int (nI (str (c 0) b k))), some (.int (nI k)), some (.int 0)]) (sk' := [.int 0]) (st' := st) (fun _ h => h) ?_
        refine w_if_eq rfl (fun _ => ?_) (fun hno => absurd (by decide) hno)
        refine w_blk 4 (pc' := 68) (ls' := [some (.ref 53), some (.int (nI b)), some (.int (nI t)), some (.int (nI (slow (c 1) b k))), some (.int (nI (str (c 0) b k))), some (.int (nI k)), some (.int 0)]) (sk' := [.int 0, .int (nI (str (c 0) b k))]) (st' := st) (fun _ h => h) ?_
        refine w_if_eq rfl (fun _ => ?_) (fun hno => absurd (by decide) hno)
        refine w_blk 2 (pc' := 83) (ls' := [some (.ref 53), some (.int (nI b)), some (.int (nI t)), some (.int (nI (slow (c 1) b k))), some (.int (nI (str (c 0) b k))), some (.int (nI k)), some (.int 0)]) (sk' := [.int ((nI (str (c 0) b k)) + 0)]) (st' := st) (fun _ h => h) ?_
        rw [show ((nI (str (c 0) b k)) + 0) = nI ((str (c 0) b k) + 0) from nI_add (str (c 0) b k) 0]
        refine w_blk 2 (pc' := 88) (ls' := [some (.ref 53), some (.int (nI b)), some (.int (nI t)), some (.int (nI (slow (c 1) b k))), some (.int (nI ((str (c 0) b k) + 0))), some (.int ((nI k) + 1)), some (.int 0)]) (sk' := []) (st' := st) (fun _ h => h) ?_
        rw [show ((nI k) + 1) = nI (k + 1) from nI_add k 1]
        refine w_blk 1 (pc' := 8) (ls' := [some (.ref 53), some (.int (nI b)), some (.int (nI t)), some (.int (nI (slow (c 1) b k))), some (.int (nI ((str (c 0) b k) + 0))), some (.int (nI (k + 1))), some (.int 0)]) (sk' := []) (st' := st) (fun _ h => h) ?_
        exact (by have hh := ih (k + 1) (by omega) (some (.int 0)); rw [show slow (c 1) b (k + 1) = slow (c 1) b k from if_neg h1, show str (c 0) b (k + 1) = (str (c 0) b k) + 0 from if_neg h1] at hh; exact hh)
      · replace h1 := pI_eq1.mp (Decidable.not_not.mp h1)
        refine w_blk 4 (pc' := 38) (ls' := [some (.ref 53), some (.int (nI b)), some (.int (nI t)), some (.int (nI (slow (c 1) b k))), some (.int (nI (str (c 0) b k))), some (.int (nI k)), some (.int 1)]) (sk' := [.int 1]) (st' := st) (fun _ h => h) ?_
        refine w_if_eq rfl (fun hno => absurd hno (by decide)) (fun _ => ?_)
        refine w_blk 3 (pc' := 47) (ls' := [some (.ref 53), some (.int (nI b)), some (.int (nI t)), some (.int (nI (slow (c 1) b k))), some (.int (nI (str (c 0) b k))), some (.int (nI k)), some (.int 1)]) (sk' := [.int (nI k), .ref 57]) (st' := st) (fun _ h => h) ?_
        refine w_iald rfl rfl (vp_in_nI (n := k) (N := 12) (by omega) (by decide)) ?_
        rw [nI_clamp (show k < 2 ^ 31 by omega)]
        rw [(hR.2.2.2.1 k (by omega)).2.1]
        refine w_blk 1 (pc' := 49) (ls' := [some (.ref 53), some (.int (nI b)), some (.int (nI t)), some (.int (nI (slow (c 1) b k))), some (.int (nI (str (c 0) b k))), some (.int (nI k)), some (.int 1)]) (sk' := [.int (nI (slow (c 1) b k)), .int (nI (c 1 k))]) (st' := st) (fun _ h => h) ?_
        refine w_cmp_le rfl (fun h2 => ?_) (fun h2 => ?_)
        · replace h2 : c 1 k ≤ slow (c 1) b k := (nI_leI (a := (c 1 k)) (b := (slow (c 1) b k)) (by omega) (by omega)).mp h2
          refine w_blk 4 (pc' := 68) (ls' := [some (.ref 53), some (.int (nI b)), some (.int (nI t)), some (.int (nI (slow (c 1) b k))), some (.int (nI (str (c 0) b k))), some (.int (nI k)), some (.int 1)]) (sk' := [.int 1, .int (nI (str (c 0) b k))]) (st' := st) (fun _ h => h) ?_
          refine w_if_eq rfl (fun hno => absurd hno (by decide)) (fun _ => ?_)
          refine w_blk 3 (pc' := 77) (ls' := [some (.ref 53), some (.int (nI b)), some (.int (nI t)), some (.int (nI (slow (c 1) b k))), some (.int (nI (str (c 0) b k))), some (.int (nI k)), some (.int 1)]) (sk' := [.int (nI k), .ref 56, .int (nI (str (c 0) b k))]) (st' := st) (fun _ h => h) ?_
          refine w_iald rfl rfl (vp_in_nI (n := k) (N := 12) (by omega) (by decide)) ?_
          rw [nI_clamp (show k < 2 ^ 31 by omega)]
          rw [(hR.2.2.2.1 k (by omega)).1]
          refine w_blk 2 (pc' := 83) (ls' := [some (.ref 53), some (.int (nI b)), some (.int (nI t)), some (.int (nI (slow (c 1) b k))), some (.int (nI (str (c 0) b k))), some (.int (nI k)), some (.int 1)]) (sk' := [.int ((nI (str (c 0) b k)) + (nI (c 0 k)))]) (st' := st) (fun _ h => h) ?_
          rw [show ((nI (str (c 0) b k)) + (nI (c 0 k))) = nI ((str (c 0) b k) + (c 0 k)) from nI_add (str (c 0) b k) (c 0 k)]
          refine w_blk 2 (pc' := 88) (ls' := [some (.ref 53), some (.int (nI b)), some (.int (nI t)), some (.int (nI (slow (c 1) b k))), some (.int (nI ((str (c 0) b k) + (c 0 k)))), some (.int ((nI k) + 1)), some (.int 1)]) (sk' := []) (st' := st) (fun _ h => h) ?_
          rw [show ((nI k) + 1) = nI (k + 1) from nI_add k 1]
          refine w_blk 1 (pc' := 8) (ls' := [some (.ref 53), some (.int (nI b)), some (.int (nI t)), some (.int (nI (slow (c 1) b k))), some (.int (nI ((str (c 0) b k) + (c 0 k)))), some (.int (nI (k + 1))), some (.int 1)]) (sk' := []) (st' := st) (fun _ h => h) ?_
          exact (by have hh := ih (k + 1) (by omega) (some (.int 1)); rw [show slow (c 1) b (k + 1) = slow (c 1) b k from (if_pos h1).trans (by omega), show str (c 0) b (k + 1) = (str (c 0) b k) + (c 0 k) from if_pos h1] at hh; exact hh)
        · replace h2 : ¬ (c 1 k ≤ slow (c 1) b k) := fun hh => h2 ((nI_leI (a := (c 1 k)) (b := (slow (c 1) b k)) (by omega) (by omega)).mpr hh)
          refine w_blk 3 (pc' := 58) (ls' := [some (.ref 53), some (.int (nI b)), some (.int (nI t)), some (.int (nI (slow (c 1) b k))), some (.int (nI (str (c 0) b k))), some (.int (nI k)), some (.int 1)]) (sk' := [.int (nI k), .ref 57]) (st' := st) (fun _ h => h) ?_
          refine w_iald rfl rfl (vp_in_nI (n := k) (N := 12) (by omega) (by decide)) ?_
          rw [nI_clamp (show k < 2 ^ 31 by omega)]
          rw [(hR.2.2.2.1 k (by omega)).2.1]
          refine w_blk 4 (pc' := 68) (ls' := [some (.ref 53), some (.int (nI b)), some (.int (nI t)), some (.int (nI (c 1 k))), some (.int (nI (str (c 0) b k))), some (.int (nI k)), some (.int 1)]) (sk' := [.int 1, .int (nI (str (c 0) b k))]) (st' := st) (fun _ h => h) ?_
          refine w_if_eq rfl (fun hno => absurd hno (by decide)) (fun _ => ?_)
          refine w_blk 3 (pc' := 77) (ls' := [some (.ref 53), some (.int (nI b)), some (.int (nI t)), some (.int (nI (c 1 k))), some (.int (nI (str (c 0) b k))), some (.int (nI k)), some (.int 1)]) (sk' := [.int (nI k), .ref 56, .int (nI (str (c 0) b k))]) (st' := st) (fun _ h => h) ?_
          refine w_iald rfl rfl (vp_in_nI (n := k) (N := 12) (by omega) (by decide)) ?_
          rw [nI_clamp (show k < 2 ^ 31 by omega)]
          rw [(hR.2.2.2.1 k (by omega)).1]
          refine w_blk 2 (pc' := 83) (ls' := [some (.ref 53), some (.int (nI b)), some (.int (nI t)), some (.int (nI (c 1 k))), some (.int (nI (str (c 0) b k))), some (.int (nI k)), some (.int 1)]) (sk' := [.int ((nI (str (c 0) b k)) + (nI (c 0 k)))]) (st' := st) (fun _ h => h) ?_
          rw [show ((nI (str (c 0) b k)) + (nI (c 0 k))) = nI ((str (c 0) b k) + (c 0 k)) from nI_add (str (c 0) b k) (c 0 k)]
          refine w_blk 2 (pc' := 88) (ls' := [some (.ref 53), some (.int (nI b)), some (.int (nI t)), some (.int (nI (c 1 k))), some (.int (nI ((str (c 0) b k) + (c 0 k)))), some (.int ((nI k) + 1)), some (.int 1)]) (sk' := []) (st' := st) (fun _ h => h) ?_
          rw [show ((nI k) + 1) = nI (k + 1) from nI_add k 1]
          refine w_blk 1 (pc' := 8) (ls' := [some (.ref 53), some (.int (nI b)), some (.int (nI t)), some (.int (nI (c 1 k))), some (.int (nI ((str (c 0) b k) + (c 0 k)))), some (.int (nI (k + 1))), some (.int 1)]) (sk' := []) (st' := st) (fun _ h => h) ?_
          exact (by have hh := ih (k + 1) (by omega) (some (.int 1)); rw [show slow (c 1) b (k + 1) = c 1 k from (if_pos h1).trans (by omega), show str (c 0) b (k + 1) = (str (c 0) b k) + (c 0 k) from if_pos h1] at hh; exact hh)
  exact key (n 0 - 0) 0 (by omega) none
set_option maxRecDepth 20000 in
/-- part(code, q) -/
theorem m_part (d : Nat) (n : Nat → Nat) (c : Nat → Nat → Nat) (q code : Nat) (st : mSt) (hR : MR st n c) (hB : CB n c) (hc : code ≤ 728) (hq3 : q ≤ 3) : ∃ (s : mSt), mMC mT (d + 1) 168 [.ref 53, .int (nI code), .int (nI q)] st (some (.int (pI ((pK q code (n 0)).isSome = true)))) s ∧ (∀ k, pK q code (n 0) = some k → k < 262144 ∧ s.1 76 0 = nI (k / 4096) ∧ s.1 76 1 = nI (k / 64 % 64) ∧ s.1 76 2 = nI (k % 64)) ∧ Fr [76] st s := by
  suffices H : ∀ Q : Option Value → mSt → Prop, (∀ (s : mSt), ((∀ k, pK q code (n 0) = some k → k < 262144 ∧ s.1 76 0 = nI (k / 4096) ∧ s.1 76 1 = nI (k / 64 % 64) ∧ s.1 76 2 = nI (k % 64)) ∧ Fr [76] st s) → Q (some (.int (pI ((pK q code (n 0)).isSome = true)))) s) → mW (mMC mT (d + 0)) (0, fun _ => 0) (mAtL P_X10_part) (some .boolean) Q 0 [some (.ref 53), some (.int (nI code)), some (.int (nI q)), none, none, none, none] [] st by
    obtain ⟨_, _, ⟨s, rfl, rfl, hp⟩, hw⟩ := mW_ex (H (fun vv tt => ∃ (s : mSt),  vv = some (.int (pI ((pK q code (n 0)).isSome = true))) ∧ s = tt ∧ (∀ k, pK q code (n 0) = some k → k < 262144 ∧ s.1 76 0 = nI (k / 4096) ∧ s.1 76 1 = nI (k / 64 % 64) ∧ s.1 76 2 = nI (k % 64)) ∧ Fr [76] st s) (fun s hp => ⟨s, rfl, rfl, hp⟩))
    exact ⟨s, mI_X10_part (d := d + 0) (Nat.le_of_ble_eq_true rfl) hw, hp⟩
  intro Q hq
  obtain ⟨hb0, hb1, hb2, hbd, hbs, hby⟩ := id hB
  refine w_blk 8 (pc' := 11) (ls' := [some (.ref 53), some (.int (nI code)), some (.int (nI q)), some (.int (nI code)), some (.int 0), some (.int 0), none]) (sk' := [.int 3, .int 0]) (st' := st) (fun _ h => h) ?_
  refine w_cmp_ge rfl (fun hno => absurd hno (by decide)) (fun _ => ?_)
  refine w_blk 4 (pc' := 21) (ls' := [some (.ref 53), some (.int (nI code)), some (.int (nI q)), some (.int (nI code)), some (.int 0), some (.int 0), none]) (sk' := [.int 0, .int 0, .ref 76]) (st' := st) (fun _ h => h) ?_
  refine w_iast rfl rfl (vp_in_nI (n := 0) (N := 3) (by decide) (by decide)) ?_
  rw [show Int32.toNatClampNeg (0 : Int32) = 0 from rfl]
  refine w_blk 1 (pc' := 25) (ls' := [some (.ref 53), some (.int (nI code)), some (.int (nI q)), some (.int (nI code)), some (.int 0), some (.int (0 + 1)), none]) (sk' := []) (st' := ((mU st.1 76 0 0), st.2)) (fun _ h => h) ?_
  rw [show (0 + 1 : Int32) = 1 from rfl]
  refine w_blk 3 (pc' := 11) (ls' := [some (.ref 53), some (.int (nI code)), some (.int (nI q)), some (.int (nI code)), some (.int 0), some (.int 1), none]) (sk' := [.int 3, .int 1]) (st' := ((mU st.1 76 0 0), st.2)) (fun _ h => h) ?_
  refine w_cmp_ge rfl (fun hno => absurd hno (by decide)) (fun _ => ?_)
  refine w_blk 4 (pc' := 21) (ls' := [some (.ref 53), some (.int (nI code)), some (.int (nI q)), some (.int (nI code)), some (.int 0), some (.int 1), none]) (sk' := [.int 0, .int 1, .ref 76]) (st' := ((mU st.1 76 0 0), st.2)) (fun _ h => h) ?_
  refine w_iast rfl rfl (vp_in_nI (n := 1) (N := 3) (by decide) (by decide)) ?_
  rw [show Int32.toNatClampNeg (1 : Int32) = 1 from rfl]
  refine w_blk 1 (pc' := 25) (ls' := [some (.ref 53), some (.int (nI code)), some (.int (nI q)), some (.int (nI code)), some (.int 0), some (.int (1 + 1)), none]) (sk' := []) (st' := ((mU (mU st.1 76 0 0) 76 1 0), st.2)) (fun _ h => h) ?_
  rw [show (1 + 1 : Int32) = 2 from rfl]
  refine w_blk 3 (pc' := 11) (ls' := [some (.ref 53), some (.int (nI code)), some (.int (nI q)), some (.int (nI code)), some (.int 0), some (.int 2), none]) (sk' := [.int 3, .int 2]) (st' := ((mU (mU st.1 76 0 0) 76 1 0), st.2)) (fun _ h => h) ?_
  refine w_cmp_ge rfl (fun hno => absurd hno (by decide)) (fun _ => ?_)
  refine w_blk 4 (pc' := 21) (ls' := [some (.ref 53), some (.int (nI code)), some (.int (nI q)), some (.int (nI code)), some (.int 0), some (.int 2), none]) (sk' := [.int 0, .int 2, .ref 76]) (st' := ((mU (mU st.1 76 0 0) 76 1 0), st.2)) (fun _ h => h) ?_
  refine w_iast rfl rfl (vp_in_nI (n := 2) (N := 3) (by decide) (by decide)) ?_
  rw [show Int32.toNatClampNeg (2 : Int32) = 2 from rfl]
  refine w_blk 1 (pc' := 25) (ls' := [some (.ref 53), some (.int (nI code)), some (.int (nI q)), some (.int (nI code)), some (.int 0), some (.int (2 + 1)), none]) (sk' := []) (st' := ((mU (mU (mU st.1 76 0 0) 76 1 0) 76 2 0), st.2)) (fun _ h => h) ?_
  rw [show (2 + 1 : Int32) = 3 from rfl]
  refine w_blk 3 (pc' := 11) (ls' := [some (.ref 53), some (.int (nI code)), some (.int (nI q)), some (.int (nI code)), some (.int 0), some (.int 3), none]) (sk' := [.int 3, .int 3]) (st' := ((mU (mU (mU st.1 76 0 0) 76 1 0) 76 2 0), st.2)) (fun _ h => h) ?_
  refine w_cmp_ge rfl (fun _ => ?_) (fun hno => absurd (by decide) hno)
  refine w_blk 2 (pc' := 31) (ls' := [some (.ref 53), some (.int (nI code)), some (.int (nI q)), some (.int (nI code)), some (.int 0), some (.int 0), none]) (sk' := []) (st' := ((mU (mU (mU st.1 76 0 0) 76 1 0) 76 2 0), st.2)) (fun _ h => h) ?_
  have hG_2 : (((mU (mU (mU st.1 76 0 0) 76 1 0) 76 2 0), st.2)).1 76 0 = nI 0 ∧ (((mU (mU (mU st.1 76 0 0) 76 1 0) 76 2 0), st.2)).1 76 1 = nI 0 ∧ (((mU (mU (mU st.1 76 0 0) 76 1 0) 76 2 0), st.2)).1 76 2 = nI 0 := ⟨rfl, rfl, rfl⟩
  have hf_3 : Fr [76] st ((mU (mU (mU st.1 76 0 0) 76 1 0) 76 2 0), st.2) := (Fr.trans (Fr.trans (Fr.trans (Fr.rf : Fr [76] st st) (Fr.mU (by decide))) (Fr.mU (by decide))) (Fr.mU (by decide)))
  generalize ((mU (mU (mU st.1 76 0 0) 76 1 0) 76 2 0), st.2) = s1 at hG_2 hf_3 ⊢
  suffices key : ∀ (m e r t ra rb rc : Nat) (s1 : mSt) (l6 : Option Value), e + m = n 0 → pm q code e = some (r, t, ra, rb, rc) → r ≤ 728 → t ≤ e → ra < 64 → rb < 64 → rc < 64 → Fr [76] st s1 → (s1.1 76 0 = nI ra ∧ s1.1 76 1 = nI rb ∧ s1.1 76 2 = nI rc) → mW (mMC mT (d + 0)) (0, fun _ => 0) (mAtL P_X10_part) (some .boolean) Q 31 [some (.ref 53), some (.int (nI code)), some (.int (nI q)), some (.int (nI r)), some (.int (nI t)), some (.int (nI e)), l6] [] s1 from key (n 0) 0 code 0 0 0 0 _ _ (by omega) rfl hc (Nat.le_refl _) (by decide) (by decide) (by decide) hf_3 hG_2
  intro m
  induction m with
  | zero =>
    intro e r t ra rb rc s1 l6 he hpm hr ht hra hrb hrc hf hG
    have hR1 : MR s1 n c := MR_fr hf (by decide) hR
    obtain rfl : n 0 = e := by omega
    refine w_blk 4 (pc' := 38) (ls' := [some (.ref 53), some (.int (nI code)), some (.int (nI q)), some (.int (nI r)), some (.int (nI t)), some (.int (nI (n 0))), l6]) (sk' := [.int 0, .ref 55, .int (nI (n 0))]) (st' := s1) (fun _ h => h) ?_
    refine w_iald rfl rfl (vp_in_nI (n := 0) (N := 2) (by decide) (by decide)) ?_
    rw [show Int32.toNatClampNeg (0 : Int32) = 0 from rfl]
    rw [hR1.1]
    refine w_cmp_ge rfl (fun _ => ?_) (fun hno => absurd (Int32.le_refl _) hno)
    refine w_blk 1 (pc' := 105) (ls' := [some (.ref 53), some (.int (nI code)), some (.int (nI q)), some (.int (nI r)), some (.int (nI t)), some (.int (nI (n 0))), l6]) (sk' := [.int 1]) (st' := s1) (fun _ h => h) ?_
    exact w_iret rfl rfl rfl (by have hh := hq s1; rw [show pI ((pK q code (n 0)).isSome = true) = 1 from pI_t (by rw [pK_some hpm]; rfl)] at hh; exact hh ⟨fun k hk => by rw [pK_some hpm] at hk; obtain rfl := Option.some.inj hk; rw [ky_a hrb hrc, ky_b hrb hrc, ky_c hrc]; exact ⟨by omega, hG⟩, hf⟩)
  | succ m ih =>
    intro e r t ra rb rc s1 l6 he hpm hr ht hra hrb hrc hf hG
    have hR1 : MR s1 n c := MR_fr hf (by decide) hR
    have he2 : e < n 0 := by omega
    have hlt : ∀ {x : Nat}, x < 64 → x ||| 2 ^ e < 64 := fun h => Nat.or_lt_two_pow (n := 6) h (Nat.pow_lt_pow_right (by decide) (by omega))
    refine w_blk 4 (pc' := 38) (ls' := [some (.ref 53), some (.int (nI code)), some (.int (nI q)), some (.int (nI r)), some (.int (nI t)), some (.int (nI e)), l6]) (sk' := [.int 0, .ref 55, .int (nI e)]) (st' := s1) (fun _ h => h) ?_
    refine w_iald rfl rfl (vp_in_nI (n := 0) (N := 2) (by decide) (by decide)) ?_
    rw [show Int32.toNatClampNeg (0 : Int32) = 0 from rfl]
    rw [hR1.1]
    refine w_cmp_ge rfl (fun hno => absurd hno (nI_ge he2 (by omega))) (fun _ => ?_)
    refine w_blk 2 (pc' := 44) (ls' := [some (.ref 53), some (.int (nI code)), some (.int (nI q)), some (.int (nI r)), some (.int (nI t)), some (.int (nI e)), l6]) (sk' := [.int 3, .int (nI r)]) (st' := s1) (fun _ h => h) ?_
    refine w_rem rfl (by decide) ?_
    rw [show ((nI r) - (nI r) / 3 * 3) = nI (r % 3) from pk_rem (a := r) (d := 3) (by omega) (by omega) (by omega)]
    refine w_blk 3 (pc' := 49) (ls' := [some (.ref 53), some (.int (nI code)), some (.int (nI q)), some (.int (nI r)), some (.int (nI t)), some (.int (nI e)), some (.int (nI (r % 3)))]) (sk' := [.int 3, .int (nI r)]) (st' := s1) (fun _ h => h) ?_
    refine w_div rfl (by decide) ?_
    rw [show ((nI r) / 3) = nI (r / 3) from pk_div (a := r) (d := 3) (by omega) (by omega) (by omega)]
    refine w_blk 3 (pc' := 55) (ls' := [some (.ref 53), some (.int (nI code)), some (.int (nI q)), some (.int (nI (r / 3))), some (.int (nI t)), some (.int (nI e)), some (.int (nI (r % 3)))]) (sk' := [.int (nI t), .int (nI (r % 3))]) (st' := s1) (fun _ h => h) ?_
    refine w_cmp_gt rfl (fun h1 => ?_) (fun h1 => ?_)
    · replace h1 : t < r % 3 := (nI_ltI (a := t) (b := (r % 3)) (by omega) (by omega)).mp h1
      refine w_blk 1 (pc' := 65) (ls' := [some (.ref 53), some (.int (nI code)), some (.int (nI q)), some (.int (nI (r / 3))), some (.int (nI t)), some (.int (nI e)), some (.int (nI (r % 3)))]) (sk' := [.int 0]) (st' := s1) (fun _ h => h) ?_
      exact w_iret rfl rfl rfl (by have hh := hq s1; have hno := pK_none (pm_none (pm_out hpm (by omega)) (n 0) (by omega)); rw [show pI ((pK q code (n 0)).isSome = true) = 0 from pI_f (by rw [hno]; decide)] at hh; exact hh ⟨fun k hk => by rw [hno] at hk; exact (nomatch hk), hf⟩)
    · replace h1 : ¬ (t < r % 3) := fun hh => h1 ((nI_ltI (a := t) (b := (r % 3)) (by omega) (by omega)).mpr hh)
      refine w_blk 2 (pc' := 61) (ls' := [some (.ref 53), some (.int (nI code)), some (.int (nI q)), some (.int (nI (r / 3))), some (.int (nI t)), some (.int (nI e)), some (.int (nI (r % 3)))]) (sk' := [.int (nI q), .int (nI (r % 3))]) (st' := s1) (fun _ h => h) ?_
      refine w_cmp_lt rfl (fun h2 => ?_) (fun h2 => ?_)
      · replace h2 : r % 3 < q := (nI_ltI (a := (r % 3)) (b := q) (by omega) (by omega)).mp h2
        have h3 : r % 3 = 0 ∨ r % 3 = 1 ∨ r % 3 = 2 := by omega
        rcases h3 with e0 | e0 | e0
        · rw [e0]
          refine w_blk 4 (pc' := 73) (ls' := [some (.ref 53), some (.int (nI code)), some (.int (nI q)), some (.int (nI (r / 3))), some (.int (nI t)), some (.int (nI e)), some (.int (nI 0))]) (sk' := [.int (nI 0), .ref 76, .int (nI 0), .ref 76]) (st' := s1) (fun _ h => h) ?_
          refine w_iald rfl rfl (vp_in_nI (n := 0) (N := 3) (by omega) (by decide)) ?_
          rw [nI_clamp (show 0 < 2 ^ 31 by omega)]
          rw [hG.1]
          refine w_blk 3 (pc' := 78) (ls' := [some (.ref 53), some (.int (nI code)), some (.int (nI q)), some (.int (nI (r / 3))), some (.int (nI t)), some (.int (nI e)), some (.int (nI 0))]) (sk' := [.int (1 <<< ((nI e) &&& 31)), .int (nI (ra)), .int (nI 0), .ref 76]) (st' := s1) (fun _ h => h) ?_
          rw [show (1 <<< ((nI e) &&& 31)) = nI (2 ^ e) from nI_shl1 (by omega)]
          refine w_blk 1 (pc' := 79) (ls' := [some (.ref 53), some (.int (nI code)), some (.int (nI q)), some (.int (nI (r / 3))), some (.int (nI t)), some (.int (nI e)), some (.int (nI 0))]) (sk' := [.int ((nI (ra)) ||| (nI (2 ^ e))), .int (nI 0), .ref 76]) (st' := s1) (fun _ h => h) ?_
          rw [show ((nI (ra)) ||| (nI (2 ^ e))) = nI (ra ||| (2 ^ e)) from nI_or ra (2 ^ e)]
          refine w_iast rfl rfl (vp_in_nI (n := 0) (N := 3) (by omega) (by decide)) ?_
          rw [nI_clamp (show 0 < 2 ^ 31 by omega)]
          refine w_blk 2 (pc' := 84) (ls' := [some (.ref 53), some (.int (nI code)), some (.int (nI q)), some (.int (nI (r / 3))), some (.int (nI t)), some (.int (nI e)), some (.int (nI 0))]) (sk' := [.int (nI t), .int (nI 0)]) (st' := ((mU s1.1 76 0 (nI (ra ||| (2 ^ e)))), s1.2)) (fun _ h => h) ?_
          refine w_cmp_ne rfl (fun h9 => ?_) (fun h9 => ?_)
          · replace h9 : ¬ (0 = t) := fun hh => h9 ((nI_eq (a := 0) (b := t) (by omega) (by omega)).mpr hh)
            refine w_blk 3 (pc' := 101) (ls' := [some (.ref 53), some (.int (nI code)), some (.int (nI q)), some (.int (nI (r / 3))), some (.int (nI t)), some (.int ((nI e) + 1)), some (.int (nI 0))]) (sk' := []) (st' := ((mU s1.1 76 0 (nI (ra ||| (2 ^ e)))), s1.2)) (fun _ h => h) ?_
            rw [show ((nI e) + 1) = nI (e + 1) from nI_add e 1]
            refine w_blk 1 (pc' := 31) (ls' := [some (.ref 53), some (.int (nI code)), some (.int (nI q)), some (.int (nI (r / 3))), some (.int (nI t)), some (.int (nI (e + 1))), some (.int (nI 0))]) (sk' := []) (st' := ((mU s1.1 76 0 (nI (ra ||| (2 ^ e)))), s1.2)) (fun _ h => h) ?_
            exact ih (e + 1) (r / 3) t (ra ||| 2 ^ e) rb rc ((mU s1.1 76 0 (nI (ra ||| (2 ^ e)))), s1.2) _ (by omega) (by rw [pm_on hpm (by omega), if_neg (show ¬ r % 3 = t by omega), if_pos (show r % 3 = 0 by omega), if_neg (show ¬ r % 3 = 1 by omega), if_neg (show ¬ r % 3 = 2 by omega)]) (by omega) (by omega) (hlt hra) hrb hrc (Fr.trans hf (Fr.mU (by decide))) ⟨rfl, hG.2.1, hG.2.2⟩
          · replace h9 : 0 = t := (nI_eq (a := 0) (b := t) (by omega) (by omega)).mp (Decidable.not_not.mp h9)
            refine w_blk 3 (pc' := 91) (ls' := [some (.ref 53), some (.int (nI code)), some (.int (nI q)), some (.int (nI (r / 3))), some (.int (nI t)), some (.int (nI e)), some (.int (nI 0))]) (sk' := [.int ((nI t) + 1)]) (st' := ((mU s1.1 76 0 (nI (ra ||| (2 ^ e)))), s1.2)) (fun _ h => h) ?_
            rw [show ((nI t) + 1) = nI (t + 1) from nI_add t 1]
            refine w_blk 3 (pc' := 101) (ls' := [some (.ref 53), some (.int (nI code)), some (.int (nI q)), some (.int (nI (r / 3))), some (.int (nI (t + 1))), some (.int ((nI e) + 1)), some (.int (nI 0))]) (sk' := []) (st' := ((mU s1.1 76 0 (nI (ra ||| (2 ^ e)))), s1.2)) (fun _ h => h) ?_
            rw [show ((nI e) + 1) = nI (e + 1) from nI_add e 1]
            refine w_blk 1 (pc' := 31) (ls' := [some (.ref 53), some (.int (nI code)), some (.int (nI q)), some (.int (nI (r / 3))), some (.int (nI (t + 1))), some (.int (nI (e + 1))), some (.int (nI 0))]) (sk' := []) (st' := ((mU s1.1 76 0 (nI (ra ||| (2 ^ e)))), s1.2)) (fun _ h => h) ?_
            exact ih (e + 1) (r / 3) (t + 1) (ra ||| 2 ^ e) rb rc ((mU s1.1 76 0 (nI (ra ||| (2 ^ e)))), s1.2) _ (by omega) (by rw [pm_on hpm (by omega), if_pos (show r % 3 = t by omega), if_pos (show r % 3 = 0 by omega), if_neg (show ¬ r % 3 = 1 by omega), if_neg (show ¬ r % 3 = 2 by omega)]) (by omega) (by omega) (hlt hra) hrb hrc (Fr.trans hf (Fr.mU (by decide))) ⟨rfl, hG.2.1, hG.2.2⟩
        · rw [e0]
          refine w_blk 4 (pc' := 73) (ls' := [some (.ref 53), some (.int (nI code)), some (.int (nI q)), some (.int (nI (r / 3))), some (.int (nI t)), some (.int (nI e)), some (.int (nI 1))]) (sk' := [.int (nI 1), .ref 76, .int (nI 1), .ref 76]) (st' := s1) (fun _ h => h) ?_
          refine w_iald rfl rfl (vp_in_nI (n := 1) (N := 3) (by omega) (by decide)) ?_
          rw [nI_clamp (show 1 < 2 ^ 31 by omega)]
          rw [hG.2.1]
          refine w_blk 3 (pc' := 78) (ls' := [some (.ref 53), some (.int (nI code)), some (.int (nI q)), some (.int (nI (r / 3))), some (.int (nI t)), some (.int (nI e)), some (.int (nI 1))]) (sk' := [.int (1 <<< ((nI e) &&& 31)), .int (nI (rb)), .int (nI 1), .ref 76]) (st' := s1) (fun _ h => h) ?_
          rw [show (1 <<< ((nI e) &&& 31)) = nI (2 ^ e) from nI_shl1 (by omega)]
          refine w_blk 1 (pc' := 79) (ls' := [some (.ref 53), some (.int (nI code)), some (.int (nI q)), some (.int (nI (r / 3))), some (.int (nI t)), some (.int (nI e)), some (.int (nI 1))]) (sk' := [.int ((nI (rb)) ||| (nI (2 ^ e))), .int (nI 1), .ref 76]) (st' := s1) (fun _ h => h) ?_
          rw [show ((nI (rb)) ||| (nI (2 ^ e))) = nI (rb ||| (2 ^ e)) from nI_or rb (2 ^ e)]
          refine w_iast rfl rfl (vp_in_nI (n := 1) (N := 3) (by omega) (by decide)) ?_
          rw [nI_clamp (show 1 < 2 ^ 31 by omega)]
          refine w_blk 2 (pc' := 84) (ls' := [some (.ref 53), some (.int (nI code)), some (.int (nI q)), some (.int (nI (r / 3))), some (.int (nI t)), some (.int (nI e)), some (.int (nI 1))]) (sk' := [.int (nI t), .int (nI 1)]) (st' := ((mU s1.1 76 1 (nI (rb ||| (2 ^ e)))), s1.2)) (fun _ h => h) ?_
          refine w_cmp_ne rfl (fun h9 => ?_) (fun h9 => ?_)
          · replace h9 : ¬ (1 = t) := fun hh => h9 ((nI_eq (a := 1) (b := t) (by omega) (by omega)).mpr hh)
            refine w_blk 3 (pc' := 101) (ls' := [some (.ref 53), some (.int (nI code)), some (.int (nI q)), some (.int (nI (r / 3))), some (.int (nI t)), some (.int ((nI e) + 1)), some (.int (nI 1))]) (sk' := []) (st' := ((mU s1.1 76 1 (nI (rb ||| (2 ^ e)))), s1.2)) (fun _ h => h) ?_
            rw [show ((nI e) + 1) = nI (e + 1) from nI_add e 1]
            refine w_blk 1 (pc' := 31) (ls' := [some (.ref 53), some (.int (nI code)), some (.int (nI q)), some (.int (nI (r / 3))), some (.int (nI t)), some (.int (nI (e + 1))), some (.int (nI 1))]) (sk' := []) (st' := ((mU s1.1 76 1 (nI (rb ||| (2 ^ e)))), s1.2)) (fun _ h => h) ?_
            exact ih (e + 1) (r / 3) t ra (rb ||| 2 ^ e) rc ((mU s1.1 76 1 (nI (rb ||| (2 ^ e)))), s1.2) _ (by omega) (by rw [pm_on hpm (by omega), if_neg (show ¬ r % 3 = t by omega), if_neg (show ¬ r % 3 = 0 by omega), if_pos (show r % 3 = 1 by omega), if_neg (show ¬ r % 3 = 2 by omega)]) (by omega) (by omega) hra (hlt hrb) hrc (Fr.trans hf (Fr.mU (by decide))) ⟨hG.1, rfl, hG.2.2⟩
          · replace h9 : 1 = t := (nI_eq (a := 1) (b := t) (by omega) (by omega)).mp (Decidable.not_not.mp h9)
            refine w_blk 3 (pc' := 91) (ls' := [some (.ref 53), some (.int (nI code)), some (.int (nI q)), some (.int (nI (r / 3))), some (.int (nI t)), some (.int (nI e)), some (.int (nI 1))]) (sk' := [.int ((nI t) + 1)]) (st' := ((mU s1.1 76 1 (nI (rb ||| (2 ^ e)))), s1.2)) (fun _ h => h) ?_
            rw [show ((nI t) + 1) = nI (t + 1) from nI_add t 1]
            refine w_blk 3 (pc' := 101) (ls' := [some (.ref 53), some (.int (nI code)), some (.int (nI q)), some (.int (nI (r / 3))), some (.int (nI (t + 1))), some (.int ((nI e) + 1)), some (.int (nI 1))]) (sk' := []) (st' := ((mU s1.1 76 1 (nI (rb ||| (2 ^ e)))), s1.2)) (fun _ h => h) ?_
            rw [show ((nI e) + 1) = nI (e + 1) from nI_add e 1]
            refine w_blk 1 (pc' := 31) (ls' := [some (.ref 53), some (.int (nI code)), some (.int (nI q)), some (.int (nI (r / 3))), some (.int (nI (t + 1))), some (.int (nI (e + 1))), some (.int (nI 1))]) (sk' := []) (st' := ((mU s1.1 76 1 (nI (rb ||| (2 ^ e)))), s1.2)) (fun _ h => h) ?_
            exact ih (e + 1) (r / 3) (t + 1) ra (rb ||| 2 ^ e) rc ((mU s1.1 76 1 (nI (rb ||| (2 ^ e)))), s1.2) _ (by omega) (by rw [pm_on hpm (by omega), if_pos (show r % 3 = t by omega), if_neg (show ¬ r % 3 = 0 by omega), if_pos (show r % 3 = 1 by omega), if_neg (show ¬ r % 3 = 2 by omega)]) (by omega) (by omega) hra (hlt hrb) hrc (Fr.trans hf (Fr.mU (by decide))) ⟨hG.1, rfl, hG.2.2⟩
        · rw [e0]
          refine w_blk 4 (pc' := 73) (ls' := [some (.ref 53), some (.int (nI code)), some (.int (nI q)), some (.int (nI (r / 3))), some (.int (nI t)), some (.int (nI e)), some (.int (nI 2))]) (sk' := [.int (nI 2), .ref 76, .int (nI 2), .ref 76]) (st' := s1) (fun _ h => h) ?_
          refine w_iald rfl rfl (vp_in_nI (n := 2) (N := 3) (by omega) (by decide)) ?_
          rw [nI_clamp (show 2 < 2 ^ 31 by omega)]
          rw [hG.2.2]
          refine w_blk 3 (pc' := 78) (ls' := [some (.ref 53), some (.int (nI code)), some (.int (nI q)), some (.int (nI (r / 3))), some (.int (nI t)), some (.int (nI e)), some (.int (nI 2))]) (sk' := [.int (1 <<< ((nI e) &&& 31)), .int (nI (rc)), .int (nI 2), .ref 76]) (st' := s1) (fun _ h => h) ?_
          rw [show (1 <<< ((nI e) &&& 31)) = nI (2 ^ e) from nI_shl1 (by omega)]
          refine w_blk 1 (pc' := 79) (ls' := [some (.ref 53), some (.int (nI code)), some (.int (nI q)), some (.int (nI (r / 3))), some (.int (nI t)), some (.int (nI e)), some (.int (nI 2))]) (sk' := [.int ((nI (rc)) ||| (nI (2 ^ e))), .int (nI 2), .ref 76]) (st' := s1) (fun _ h => h) ?_
          rw [show ((nI (rc)) ||| (nI (2 ^ e))) = nI (rc ||| (2 ^ e)) from nI_or rc (2 ^ e)]
          refine w_iast rfl rfl (vp_in_nI (n := 2) (N := 3) (by omega) (by decide)) ?_
          rw [nI_clamp (show 2 < 2 ^ 31 by omega)]
          refine w_blk 2 (pc' := 84) (ls' := [some (.ref 53), some (.int (nI code)), some (.int (nI q)), some (.int (nI (r / 3))), some (.int (nI t)), some (.int (nI e)), some (.int (nI 2))]) (sk' := [.int (nI t), .int (nI 2)]) (st' := ((mU s1.1 76 2 (nI (rc ||| (2 ^ e)))), s1.2)) (fun _ h => h) ?_
          refine w_cmp_ne rfl (fun h9 => ?_) (fun h9 => ?_)
          · replace h9 : ¬ (2 = t) := fun hh => h9 ((nI_eq (a := 2) (b := t) (by omega) (by omega)).mpr hh)
            refine w_blk 3 (pc' := 101) (ls' := [some (.ref 53), some (.int (nI code)), some (.int (nI q)), some (.int (nI (r / 3))), some (.int (nI t)), some (.int ((nI e) + 1)), some (.int (nI 2))]) (sk' := []) (st' := ((mU s1.1 76 2 (nI (rc ||| (2 ^ e)))), s1.2)) (fun _ h => h) ?_
            rw [show ((nI e) + 1) = nI (e + 1) from nI_add e 1]
            refine w_blk 1 (pc' := 31) (ls' := [some (.ref 53), some (.int (nI code)), some (.int (nI q)), some (.int (nI (r / 3))), some (.int (nI t)), some (.int (nI (e + 1))), some (.int (nI 2))]) (sk' := []) (st' := ((mU s1.1 76 2 (nI (rc ||| (2 ^ e)))), s1.2)) (fun _ h => h) ?_
            exact ih (e + 1) (r / 3) t ra rb (rc ||| 2 ^ e) ((mU s1.1 76 2 (nI (rc ||| (2 ^ e)))), s1.2) _ (by omega) (by rw [pm_on hpm (by omega), if_neg (show ¬ r % 3 = t by omega), if_neg (show ¬ r % 3 = 0 by omega), if_neg (show ¬ r % 3 = 1 by omega), if_pos (show r % 3 = 2 by omega)]) (by omega) (by omega) hra hrb (hlt hrc) (Fr.trans hf (Fr.mU (by decide))) ⟨hG.1, hG.2.1, rfl⟩
          · replace h9 : 2 = t := (nI_eq (a := 2) (b := t) (by omega) (by omega)).mp (Decidable.not_not.mp h9)
            refine w_blk 3 (pc' := 91) (ls' := [some (.ref 53), some (.int (nI code)), some (.int (nI q)), some (.int (nI (r / 3))), some (.int (nI t)), some (.int (nI e)), some (.int (nI 2))]) (sk' := [.int ((nI t) + 1)]) (st' := ((mU s1.1 76 2 (nI (rc ||| (2 ^ e)))), s1.2)) (fun _ h => h) ?_
            rw [show ((nI t) + 1) = nI (t + 1) from nI_add t 1]
            refine w_blk 3 (pc' := 101) (ls' := [some (.ref 53), some (.int (nI code)), some (.int (nI q)), some (.int (nI (r / 3))), some (.int (nI (t + 1))), some (.int ((nI e) + 1)), some (.int (nI 2))]) (sk' := []) (st' := ((mU s1.1 76 2 (nI (rc ||| (2 ^ e)))), s1.2)) (fun _ h => h) ?_
            rw [show ((nI e) + 1) = nI (e + 1) from nI_add e 1]
            refine w_blk 1 (pc' := 31) (ls' := [some (.ref 53), some (.int (nI code)), some (.int (nI q)), some (.int (nI (r / 3))), some (.int (nI (t + 1))), some (.int (nI (e + 1))), some (.int (nI 2))]) (sk' := []) (st' := ((mU s1.1 76 2 (nI (rc ||| (2 ^ e)))), s1.2)) (fun _ h => h) ?_
            exact ih (e + 1) (r / 3) (t + 1) ra rb (rc ||| 2 ^ e) ((mU s1.1 76 2 (nI (rc ||| (2 ^ e)))), s1.2) _ (by omega) (by rw [pm_on hpm (by omega), if_pos (show r % 3 = t by omega), if_neg (show ¬ r % 3 = 0 by omega), if_neg (show ¬ r % 3 = 1 by omega), if_pos (show r % 3 = 2 by omega)]) (by omega) (by omega) hra hrb (hlt hrc) (Fr.trans hf (Fr.mU (by decide))) ⟨hG.1, hG.2.1, rfl⟩
      · replace h2 : ¬ (r % 3 < q) := fun hh => h2 ((nI_ltI (a := (r % 3)) (b := q) (by omega) (by omega)).mpr hh)
        refine w_blk 1 (pc' := 65) (ls' := [some (.ref 53), some (.int (nI code)), some (.int (nI q)), some (.int (nI (r / 3))), some (.int (nI t)), some (.int (nI e)), some (.int (nI (r % 3)))]) (sk' := [.int 0]) (st' := s1) (fun _ h => h) ?_
        exact w_iret rfl rfl rfl (by have hh := hq s1; have hno := pK_none (pm_none (pm_out hpm (by omega)) (n 0) (by omega)); rw [show pI ((pK q code (n 0)).isSome = true) = 0 from pI_f (by rw [hno]; decide)] at hh; exact hh ⟨fun k hk => by rw [hno] at hk; exact (nomatch hk), hf⟩)
set_option maxRecDepth 20000 in
/-- isAhead() -/
theorem m_isAhead (d : Nat) (ra rb rc xa xb xc : Nat) (st : mSt) (hG : st.1 76 0 = nI ra ∧ st.1 76 1 = nI rb ∧ st.1 76 2 = nI rc) (hK : st.1 77 0 = nI xa ∧ st.1 77 1 = nI xb ∧ st.1 77 2 = nI xc) (h1a : ra < 64) (h1b : rb < 64) (h1c : rc < 64) (h2a : xa < 64) (h2b : xb < 64) (h2c : xc < 64) : mMC mT (d + 1) 169 [.ref 53] st (some (.int (pI (ra * 4096 + rb * 64 + rc < xa * 4096 + xb * 64 + xc)))) st := by
  refine mI_X10_isAhead (d := d + 0) (Nat.le_of_ble_eq_true rfl) (fun Q hq => ?_)
  show mW (mMC mT (d + 0)) (0, fun _ => 0) (mAtL P_X10_isAhead) (some .boolean) Q 0 [some (.ref 53), none] [] st
  refine w_blk 4 (pc' := 4) (ls' := [some (.ref 53), some (.int 0)]) (sk' := [.int 3, .int 0]) (st' := st) (fun _ h => h) ?_
  refine w_cmp_ge rfl (fun hno => absurd hno (by decide)) (fun _ => ?_)
  refine w_blk 3 (pc' := 12) (ls' := [some (.ref 53), some (.int 0)]) (sk' := [.int 0, .ref 76]) (st' := st) (fun _ h => h) ?_
  refine w_iald rfl rfl (vp_in_nI (n := 0) (N := 3) (by decide) (by decide)) ?_
  rw [show Int32.toNatClampNeg (0 : Int32) = 0 from rfl]
  rw [hG.1]
  refine w_blk 3 (pc' := 18) (ls' := [some (.ref 53), some (.int 0)]) (sk' := [.int 0, .ref 77, .int (nI (ra))]) (st' := st) (fun _ h => h) ?_
  refine w_iald rfl rfl (vp_in_nI (n := 0) (N := 3) (by decide) (by decide)) ?_
  rw [show Int32.toNatClampNeg (0 : Int32) = 0 from rfl]
  rw [hK.1]
  refine w_cmp_eq rfl (fun h1 => ?_) (fun h1 => ?_)
  · replace h1 : ra = xa := (nI_eq (a := ra) (b := xa) (by omega) (by omega)).mp h1
    refine w_blk 1 (pc' := 46) (ls' := [some (.ref 53), some (.int (0 + 1))]) (sk' := []) (st' := st) (fun _ h => h) ?_
    rw [show (0 + 1 : Int32) = 1 from rfl]
    refine w_blk 3 (pc' := 4) (ls' := [some (.ref 53), some (.int 1)]) (sk' := [.int 3, .int 1]) (st' := st) (fun _ h => h) ?_
    refine w_cmp_ge rfl (fun hno => absurd hno (by decide)) (fun _ => ?_)
    refine w_blk 3 (pc' := 12) (ls' := [some (.ref 53), some (.int 1)]) (sk' := [.int 1, .ref 76]) (st' := st) (fun _ h => h) ?_
    refine w_iald rfl rfl (vp_in_nI (n := 1) (N := 3) (by decide) (by decide)) ?_
    rw [show Int32.toNatClampNeg (1 : Int32) = 1 from rfl]
    rw [hG.2.1]
    refine w_blk 3 (pc' := 18) (ls' := [some (.ref 53), some (.int 1)]) (sk' := [.int 1, .ref 77, .int (nI (rb))]) (st' := st) (fun _ h => h) ?_
    refine w_iald rfl rfl (vp_in_nI (n := 1) (N := 3) (by decide) (by decide)) ?_
    rw [show Int32.toNatClampNeg (1 : Int32) = 1 from rfl]
    rw [hK.2.1]
    refine w_cmp_eq rfl (fun h2 => ?_) (fun h2 => ?_)
    · replace h2 : rb = xb := (nI_eq (a := rb) (b := xb) (by omega) (by omega)).mp h2
      refine w_blk 1 (pc' := 46) (ls' := [some (.ref 53), some (.int (1 + 1))]) (sk' := []) (st' := st) (fun _ h => h) ?_
      rw [show (1 + 1 : Int32) = 2 from rfl]
      refine w_blk 3 (pc' := 4) (ls' := [some (.ref 53), some (.int 2)]) (sk' := [.int 3, .int 2]) (st' := st) (fun _ h => h) ?_
      refine w_cmp_ge rfl (fun hno => absurd hno (by decide)) (fun _ => ?_)
      refine w_blk 3 (pc' := 12) (ls' := [some (.ref 53), some (.int 2)]) (sk' := [.int 2, .ref 76]) (st' := st) (fun _ h => h) ?_
      refine w_iald rfl rfl (vp_in_nI (n := 2) (N := 3) (by decide) (by decide)) ?_
      rw [show Int32.toNatClampNeg (2 : Int32) = 2 from rfl]
      rw [hG.2.2]
      refine w_blk 3 (pc' := 18) (ls' := [some (.ref 53), some (.int 2)]) (sk' := [.int 2, .ref 77, .int (nI (rc))]) (st' := st) (fun _ h => h) ?_
      refine w_iald rfl rfl (vp_in_nI (n := 2) (N := 3) (by decide) (by decide)) ?_
      rw [show Int32.toNatClampNeg (2 : Int32) = 2 from rfl]
      rw [hK.2.2]
      refine w_cmp_eq rfl (fun h3 => ?_) (fun h3 => ?_)
      · replace h3 : rc = xc := (nI_eq (a := rc) (b := xc) (by omega) (by omega)).mp h3
        refine w_blk 1 (pc' := 46) (ls' := [some (.ref 53), some (.int (2 + 1))]) (sk' := []) (st' := st) (fun _ h => h) ?_
        rw [show (2 + 1 : Int32) = 3 from rfl]
        refine w_blk 3 (pc' := 4) (ls' := [some (.ref 53), some (.int 3)]) (sk' := [.int 3, .int 3]) (st' := st) (fun _ h => h) ?_
        refine w_cmp_ge rfl (fun _ => ?_) (fun hno => absurd (by decide) hno)
        refine w_blk 1 (pc' := 50) (ls' := [some (.ref 53), some (.int 3)]) (sk' := [.int 0]) (st' := st) (fun _ h => h) ?_
        rw [pI_f (by omega)] at hq
        exact w_iret rfl rfl rfl hq
      · replace h3 : ¬ (rc = xc) := fun hh => h3 ((nI_eq (a := rc) (b := xc) (by omega) (by omega)).mpr hh)
        refine w_blk 3 (pc' := 27) (ls' := [some (.ref 53), some (.int 2)]) (sk' := [.int 2, .ref 76]) (st' := st) (fun _ h => h) ?_
        refine w_iald rfl rfl (vp_in_nI (n := 2) (N := 3) (by decide) (by decide)) ?_
        rw [show Int32.toNatClampNeg (2 : Int32) = 2 from rfl]
        rw [hG.2.2]
        refine w_blk 3 (pc' := 33) (ls' := [some (.ref 53), some (.int 2)]) (sk' := [.int 2, .ref 77, .int (nI (rc))]) (st' := st) (fun _ h => h) ?_
        refine w_iald rfl rfl (vp_in_nI (n := 2) (N := 3) (by decide) (by decide)) ?_
        rw [show Int32.toNatClampNeg (2 : Int32) = 2 from rfl]
        rw [hK.2.2]
        refine w_cmp_ge rfl (fun h4 => ?_) (fun h4 => ?_)
        · replace h4 : xc ≤ rc := (nI_leI (a := xc) (b := rc) (by omega) (by omega)).mp h4
          refine w_blk 1 (pc' := 42) (ls' := [some (.ref 53), some (.int 2)]) (sk' := [.int 0]) (st' := st) (fun _ h => h) ?_
          rw [pI_f (by omega)] at hq
          exact w_iret rfl rfl rfl hq
        · replace h4 : ¬ (xc ≤ rc) := fun hh => h4 ((nI_leI (a := xc) (b := rc) (by omega) (by omega)).mpr hh)
          refine w_blk 2 (pc' := 42) (ls' := [some (.ref 53), some (.int 2)]) (sk' := [.int 1]) (st' := st) (fun _ h => h) ?_
          rw [pI_t (by omega)] at hq
          exact w_iret rfl rfl rfl hq
    · replace h2 : ¬ (rb = xb) := fun hh => h2 ((nI_eq (a := rb) (b := xb) (by omega) (by omega)).mpr hh)
      refine w_blk 3 (pc' := 27) (ls' := [some (.ref 53), some (.int 1)]) (sk' := [.int 1, .ref 76]) (st' := st) (fun _ h => h) ?_
      refine w_iald rfl rfl (vp_in_nI (n := 1) (N := 3) (by decide) (by decide)) ?_
      rw [show Int32.toNatClampNeg (1 : Int32) = 1 from rfl]
      rw [hG.2.1]
      refine w_blk 3 (pc' := 33) (ls' := [some (.ref 53), some (.int 1)]) (sk' := [.int 1, .ref 77, .int (nI (rb))]) (st' := st) (fun _ h => h) ?_
      refine w_iald rfl rfl (vp_in_nI (n := 1) (N := 3) (by decide) (by decide)) ?_
      rw [show Int32.toNatClampNeg (1 : Int32) = 1 from rfl]
      rw [hK.2.1]
      refine w_cmp_ge rfl (fun h3 => ?_) (fun h3 => ?_)
      · replace h3 : xb ≤ rb := (nI_leI (a := xb) (b := rb) (by omega) (by omega)).mp h3
        refine w_blk 1 (pc' := 42) (ls' := [some (.ref 53), some (.int 1)]) (sk' := [.int 0]) (st' := st) (fun _ h => h) ?_
        rw [pI_f (by omega)] at hq
        exact w_iret rfl rfl rfl hq
      · replace h3 : ¬ (xb ≤ rb) := fun hh => h3 ((nI_leI (a := xb) (b := rb) (by omega) (by omega)).mpr hh)
        refine w_blk 2 (pc' := 42) (ls' := [some (.ref 53), some (.int 1)]) (sk' := [.int 1]) (st' := st) (fun _ h => h) ?_
        rw [pI_t (by omega)] at hq
        exact w_iret rfl rfl rfl hq
  · replace h1 : ¬ (ra = xa) := fun hh => h1 ((nI_eq (a := ra) (b := xa) (by omega) (by omega)).mpr hh)
    refine w_blk 3 (pc' := 27) (ls' := [some (.ref 53), some (.int 0)]) (sk' := [.int 0, .ref 76]) (st' := st) (fun _ h => h) ?_
    refine w_iald rfl rfl (vp_in_nI (n := 0) (N := 3) (by decide) (by decide)) ?_
    rw [show Int32.toNatClampNeg (0 : Int32) = 0 from rfl]
    rw [hG.1]
    refine w_blk 3 (pc' := 33) (ls' := [some (.ref 53), some (.int 0)]) (sk' := [.int 0, .ref 77, .int (nI (ra))]) (st' := st) (fun _ h => h) ?_
    refine w_iald rfl rfl (vp_in_nI (n := 0) (N := 3) (by decide) (by decide)) ?_
    rw [show Int32.toNatClampNeg (0 : Int32) = 0 from rfl]
    rw [hK.1]
    refine w_cmp_ge rfl (fun h2 => ?_) (fun h2 => ?_)
    · replace h2 : xa ≤ ra := (nI_leI (a := xa) (b := ra) (by omega) (by omega)).mp h2
      refine w_blk 1 (pc' := 42) (ls' := [some (.ref 53), some (.int 0)]) (sk' := [.int 0]) (st' := st) (fun _ h => h) ?_
      rw [pI_f (by omega)] at hq
      exact w_iret rfl rfl rfl hq
    · replace h2 : ¬ (xa ≤ ra) := fun hh => h2 ((nI_leI (a := xa) (b := ra) (by omega) (by omega)).mpr hh)
      refine w_blk 2 (pc' := 42) (ls' := [some (.ref 53), some (.int 0)]) (sk' := [.int 1]) (st' := st) (fun _ h => h) ?_
      rw [pI_t (by omega)] at hq
      exact w_iret rfl rfl rfl hq
theorem pm_bd {g code : Nat} : ∀ n, n ≤ 6 → ∀ {r t a b c : Nat}, pm g code n = some (r, t, a, b, c) → a < 64 ∧ b < 64 ∧ c < 64 := by
  intro n
  induction n with
  | zero =>
    intro _ r t a b c h
    have h1 := Option.some.inj h
    have h2 : a = 0 ∧ b = 0 ∧ c = 0 := by
      have e := congrArg Prod.snd (congrArg Prod.snd h1)
      have e1 : 0 = a := congrArg Prod.fst e
      have e2 : 0 = b := congrArg Prod.fst (congrArg Prod.snd e)
      have e3 : 0 = c := congrArg Prod.snd (congrArg Prod.snd e)
      exact ⟨e1.symm, e2.symm, e3.symm⟩
    omega
  | succ n ih =>
    intro hn r t a b c h
    rcases hp : pm g code n with _ | ⟨r', t', a', b', c'⟩
    · rw [pm_none hp (n + 1) (by omega)] at h
      exact nomatch h
    · obtain ⟨i1, i2, i3⟩ := ih (by omega) hp
      have hlt : ∀ {x : Nat}, x < 64 → x ||| 2 ^ n < 64 := fun h => Nat.or_lt_two_pow (n := 6) h (Nat.pow_lt_pow_right (by decide) (by omega))
      by_cases hk : t' < r' % 3 ∨ g ≤ r' % 3
      · rw [pm_out hp hk] at h
        exact nomatch h
      · rw [pm_on hp hk] at h
        have e := congrArg Prod.snd (congrArg Prod.snd (Option.some.inj h))
        have e1 : (if r' % 3 = 0 then a' ||| 2 ^ n else a') = a := congrArg Prod.fst e
        have e2 : (if r' % 3 = 1 then b' ||| 2 ^ n else b') = b := congrArg Prod.fst (congrArg Prod.snd e)
        have e3 : (if r' % 3 = 2 then c' ||| 2 ^ n else c') = c := congrArg Prod.snd (congrArg Prod.snd e)
        rw [← e1, ← e2, ← e3]
        refine ⟨?_, ?_, ?_⟩ <;> split <;> first | exact hlt (by assumption) | assumption
set_option maxRecDepth 20000 in
/-- rings -/
theorem m_rings (d : Nat) (n : Nat → Nat) (c : Nat → Nat → Nat) (g t wh : Int32) (st : mSt) (hR : MR st n c) (hB : CB n c) : ∃ (r : Int32) (s : mSt), mMC mT (d + 2) 170 [.ref 53, .int g, .int t, .int wh] st (some (.int r)) s ∧ RGs n c g t wh r ∧ Fr [76, 77] st s := by
  suffices H : ∀ Q : Option Value → mSt → Prop, (∀ (r : Int32) (s : mSt), (RGs n c g t wh r ∧ Fr [76, 77] st s) → Q (some (.int r)) s) → mW (mMC mT (d + 1)) (0, fun _ => 0) (mAtL P_X10_rings) (some .int) Q 0 [some (.ref 53), some (.int g), some (.int t), some (.int wh), none, none, none, none] [] st by
    obtain ⟨_, _, ⟨r, s, rfl, rfl, hp⟩, hw⟩ := mW_ex (H (fun vv tt => ∃ (r : Int32) (s : mSt),  vv = some (.int r) ∧ s = tt ∧ RGs n c g t wh r ∧ Fr [76, 77] st s) (fun r s hp => ⟨r, s, rfl, rfl, hp⟩))
    exact ⟨r, s, mI_X10_rings (d := d + 1) (Nat.le_of_ble_eq_true rfl) hw, hp⟩
  intro Q hq
  obtain ⟨hb0, hb1, hb2, hbd, hbs, hby⟩ := id hB
  refine w_blk 3 (pc' := 3) (ls' := [some (.ref 53), some (.int g), some (.int t), some (.int wh), none, none, none, none]) (sk' := [.int 3, .int 1, .int g]) (st' := st) (fun _ h => h) ?_
  refine w_callS (As := [.int g, .int 1, .int 3]) (rest := []) rfl rfl rfl (Nat.le_of_ble_eq_true rfl) (Nat.le_of_ble_eq_true rfl) (m_in (d + 0) g 1 3 st) ?_
  refine w_if_eq rfl (fun h1 => ?_) (fun h1 => ?_)
  · replace h1 := pI_eq0.mp h1
    refine w_blk 1 (pc' := 35) (ls' := [some (.ref 53), some (.int g), some (.int t), some (.int wh), none, none, none, none]) (sk' := [.int (-1)]) (st' := st) (fun _ h => h) ?_
    have hno : ¬ ((1 ≤ g ∧ g ≤ 3) ∧ (1 ≤ t ∧ t ≤ 999) ∧ (0 ≤ wh ∧ wh ≤ nI (n 0))) := fun hh => by first | exact h1 hh.1 | exact h2 hh.2.1 | exact h3 hh.2.2
    exact w_iret rfl rfl rfl (hq _ st ⟨(if_neg hno : RGs n c g t wh (-1) = ((-1 : Int32) = -1)).mpr rfl, Fr.rf⟩)
  · replace h1 := pI_ne.mp h1
    refine w_blk 3 (pc' := 14) (ls' := [some (.ref 53), some (.int g), some (.int t), some (.int wh), none, none, none, none]) (sk' := [.int 999, .int 1, .int t]) (st' := st) (fun _ h => h) ?_
    refine w_callS (As := [.int t, .int 1, .int 999]) (rest := []) rfl rfl rfl (Nat.le_of_ble_eq_true rfl) (Nat.le_of_ble_eq_true rfl) (m_in (d + 0) t 1 999 st) ?_
    refine w_if_eq rfl (fun h2 => ?_) (fun h2 => ?_)
    · replace h2 := pI_eq0.mp h2
      refine w_blk 1 (pc' := 35) (ls' := [some (.ref 53), some (.int g), some (.int t), some (.int wh), none, none, none, none]) (sk' := [.int (-1)]) (st' := st) (fun _ h => h) ?_
      have hno : ¬ ((1 ≤ g ∧ g ≤ 3) ∧ (1 ≤ t ∧ t ≤ 999) ∧ (0 ≤ wh ∧ wh ≤ nI (n 0))) := fun hh => by first | exact h1 hh.1 | exact h2 hh.2.1 | exact h3 hh.2.2
      exact w_iret rfl rfl rfl (hq _ st ⟨(if_neg hno : RGs n c g t wh (-1) = ((-1 : Int32) = -1)).mpr rfl, Fr.rf⟩)
    · replace h2 := pI_ne.mp h2
      refine w_blk 5 (pc' := 27) (ls' := [some (.ref 53), some (.int g), some (.int t), some (.int wh), none, none, none, none]) (sk' := [.int 0, .ref 55, .int 0, .int wh]) (st' := st) (fun _ h => h) ?_
      refine w_iald rfl rfl (vp_in_nI (n := 0) (N := 2) (by decide) (by decide)) ?_
      rw [show Int32.toNatClampNeg (0 : Int32) = 0 from rfl]
      rw [hR.1]
      refine w_callS (As := [.int wh, .int 0, .int (nI (n 0))]) (rest := []) rfl rfl rfl (Nat.le_of_ble_eq_true rfl) (Nat.le_of_ble_eq_true rfl) (m_in (d + 0) wh 0 (nI (n 0)) st) ?_
      refine w_if_ne rfl (fun h3 => ?_) (fun h3 => ?_)
      · replace h3 := pI_ne.mp h3
        have hok : (1 ≤ g ∧ g ≤ 3) ∧ (1 ≤ t ∧ t ≤ 999) ∧ (0 ≤ wh ∧ wh ≤ nI (n 0)) := ⟨h1, h2, h3⟩
        obtain ⟨q, hq1, hq3, rfl⟩ := nI_within (a := 1) (b := 3) h1 (by decide) (by decide)
        obtain ⟨t', ht1, ht9, rfl⟩ := nI_within (a := 1) (b := 999) h2 (by decide) (by decide)
        obtain ⟨w', -, hw6, rfl⟩ := nI_within (a := 0) (b := n 0) h3 (by decide) (by omega)
        have ec1 := nI_clamp (show q < 2 ^ 31 by omega)
        have ec2 := nI_clamp (show t' < 2 ^ 31 by omega)
        have ec3 := nI_clamp (show w' < 2 ^ 31 by omega)
        have hwg : ∀ b, wgt n c t' b ≤ 53946 := fun b => wgt_le hB ht9 b
        have hFb : ∀ b, kyF (wgt n c t') b ≤ 161838 := fun b => by have h7 := hwg (b / 4096); have h8 := hwg (b / 64 % 64); have h9 := hwg (b % 64); unfold kyF; omega
        refine w_blk 4 (pc' := 42) (ls' := [some (.ref 53), some (.int (nI q)), some (.int (nI t')), some (.int (nI w')), some (.int (-1)), some (.int 0), none, none]) (sk' := []) (st' := st) (fun _ h => h) ?_
        suffices key : ∀ (m i : Nat) (T : Option Nat) (s1 : mSt) (l6 l7 : Option Value), i + m = 729 → Fr [76, 77] st s1 → PMr s1 T → SP (mL (n 0) q i) (kyF (wgt n c t')) T → mW (mMC mT (d + 1)) (0, fun _ => 0) (mAtL P_X10_rings) (some .int) Q 42 [some (.ref 53), some (.int (nI q)), some (.int (nI t')), some (.int (nI w')), some (.int (eTr (kyF (wgt n c t')) T)), some (.int (nI i)), l6, l7] [] s1 from key 729 0 none st none none (by omega) Fr.rf True.intro rfl
        intro m
        induction m with
        | zero =>
          intro i T s1 l6 l7 hi hf hM hSP
          obtain rfl : i = 729 := by omega
          rcases T with _ | b
          · exact absurd hSP (mL_ne hb0 (by omega) (by omega))
          obtain ⟨hsp2, han⟩ := SP_conv hb0 (by omega) (by omega) hSP
          have hFb1 := hFb b
          have hb18 : b < 262144 := by
            obtain ⟨j, hj⟩ := mL_sub 729 hSP.1
            rcases hpm : pm q j (n 0) with _ | ⟨r, tt, ra, rb, rc⟩
            · rw [pK_none hpm] at hj
              exact nomatch hj
            · have hbd2 := pm_bd (n 0) hb0 hpm
              rw [pK_some hpm] at hj
              have := Option.some.inj hj
              omega
          show mW (mMC mT (d + 1)) (0, fun _ => 0) (mAtL P_X10_rings) (some .int) Q 42 [some (.ref 53), some (.int (nI q)), some (.int (nI t')), some (.int (nI w')), some (.int (nI (kyF (wgt n c t') b))), some (.int (nI 729)), l6, l7] [] s1
          refine w_blk 2 (pc' := 47) (ls' := [some (.ref 53), some (.int (nI q)), some (.int (nI t')), some (.int (nI w')), some (.int (nI (kyF (wgt n c t') b))), some (.int (nI 729)), l6, l7]) (sk' := [.int 729, .int (nI 729)]) (st' := s1) (fun _ h => h) ?_
          refine w_cmp_ge rfl (fun _ => ?_) (fun hno => absurd (Int32.le_refl _) hno)
          refine w_blk 1 (pc' := 158) (ls' := [some (.ref 53), some (.int (nI q)), some (.int (nI t')), some (.int (nI w')), some (.int (nI (kyF (wgt n c t') b))), some (.int (nI 729)), l6, l7]) (sk' := [.int (nI w')]) (st' := s1) (fun _ h => h) ?_
          refine w_if_ne rfl (fun h4 => ?_) (fun h4 => ?_)
          · replace h4 : ¬ (w' = 0) := fun hh => h4 ((nI_eq (a := w') (b := 0) (by omega) (by omega)).mpr hh)
            refine w_blk 6 (pc' := 173) (ls' := [some (.ref 53), some (.int (nI q)), some (.int (nI t')), some (.int (nI w')), some (.int (nI (kyF (wgt n c t') b))), some (.int 0), some (.int 0), l7]) (sk' := [.int 3, .int 0]) (st' := s1) (fun _ h => h) ?_
            refine w_cmp_ge rfl (fun hno => absurd hno (by decide)) (fun _ => ?_)
            refine w_blk 3 (pc' := 182) (ls' := [some (.ref 53), some (.int (nI q)), some (.int (nI t')), some (.int (nI w')), some (.int (nI (kyF (wgt n c t') b))), some (.int 0), some (.int 0), l7]) (sk' := [.int 0, .ref 77]) (st' := s1) (fun _ h => h) ?_
            refine w_iald rfl rfl (vp_in_nI (n := 0) (N := 3) (by decide) (by decide)) ?_
            rw [show Int32.toNatClampNeg (0 : Int32) = 0 from rfl]
            rw [hM.1]
            refine w_blk 3 (pc' := 186) (ls' := [some (.ref 53), some (.int (nI q)), some (.int (nI t')), some (.int (nI w')), some (.int (nI (kyF (wgt n c t') b))), some (.int 0), some (.int 0), l7]) (sk' := [.int ((nI w') - 1), .int (nI (b / 4096))]) (st' := s1) (fun _ h => h) ?_
            rw [show ((nI w') - 1) = nI (w' - 1) from pk_sub (a := w') (b := 1) (by omega)]
            refine w_blk 3 (pc' := 189) (ls' := [some (.ref 53), some (.int (nI q)), some (.int (nI t')), some (.int (nI w')), some (.int (nI (kyF (wgt n c t') b))), some (.int 0), some (.int 0), l7]) (sk' := [.int (((nI (b / 4096)) >>> ((nI (w' - 1)) &&& 31)) &&& 1)]) (st' := s1) (fun _ h => h) ?_
            rw [show (((nI (b / 4096)) >>> ((nI (w' - 1)) &&& 31)) &&& 1) = pI (Nat.testBit (b / 4096) (w' - 1) = true) from nI_bit (by omega) (by omega)]
            refine w_blk 1 (pc' := 190) (ls' := [some (.ref 53), some (.int (nI q)), some (.int (nI t')), some (.int (nI w')), some (.int (nI (kyF (wgt n c t') b))), some (.int 0), some (.int 0), l7]) (sk' := [.int 1, .int (pI (Nat.testBit (b / 4096) (w' - 1) = true))]) (st' := s1) (fun _ h => h) ?_
            refine w_cmp_ne rfl (fun h5 => ?_) (fun h5 => ?_)
            · replace h5 := fun hh => h5 (pI_eq1.mpr hh)
              refine w_blk 3 (pc' := 210) (ls' := [some (.ref 53), some (.int (nI q)), some (.int (nI t')), some (.int (nI w')), some (.int (nI (kyF (wgt n c t') b))), some (.int 0), some (.int (0 + 1)), l7]) (sk' := []) (st' := s1) (fun _ h => h) ?_
              rw [show (0 + 1 : Int32) = 1 from rfl]
              refine w_blk 3 (pc' := 173) (ls' := [some (.ref 53), some (.int (nI q)), some (.int (nI t')), some (.int (nI w')), some (.int (nI (kyF (wgt n c t') b))), some (.int 0), some (.int 1), l7]) (sk' := [.int 3, .int 1]) (st' := s1) (fun _ h => h) ?_
              refine w_cmp_ge rfl (fun hno => absurd hno (by decide)) (fun _ => ?_)
              refine w_blk 3 (pc' := 182) (ls' := [some (.ref 53), some (.int (nI q)), some (.int (nI t')), some (.int (nI w')), some (.int (nI (kyF (wgt n c t') b))), some (.int 0), some (.int 1), l7]) (sk' := [.int 1, .ref 77]) (st' := s1) (fun _ h => h) ?_
              refine w_iald rfl rfl (vp_in_nI (n := 1) (N := 3) (by decide) (by decide)) ?_
              rw [show Int32.toNatClampNeg (1 : Int32) = 1 from rfl]
              rw [hM.2.1]
              refine w_blk 3 (pc' := 186) (ls' := [some (.ref 53), some (.int (nI q)), some (.int (nI t')), some (.int (nI w')), some (.int (nI (kyF (wgt n c t') b))), some (.int 0), some (.int 1), l7]) (sk' := [.int ((nI w') - 1), .int (nI (b / 64 % 64))]) (st' := s1) (fun _ h => h) ?_
              rw [show ((nI w') - 1) = nI (w' - 1) from pk_sub (a := w') (b := 1) (by omega)]
              refine w_blk 3 (pc' := 189) (ls' := [some (.ref 53), some (.int (nI q)), some (.int (nI t')), some (.int (nI w')), some (.int (nI (kyF (wgt n c t') b))), some (.int 0), some (.int 1), l7]) (sk' := [.int (((nI (b / 64 % 64)) >>> ((nI (w' - 1)) &&& 31)) &&& 1)]) (st' := s1) (fun _ h => h) ?_
              rw [show (((nI (b / 64 % 64)) >>> ((nI (w' - 1)) &&& 31)) &&& 1) = pI (Nat.testBit (b / 64 % 64) (w' - 1) = true) from nI_bit (by omega) (by omega)]
              refine w_blk 1 (pc' := 190) (ls' := [some (.ref 53), some (.int (nI q)), some (.int (nI t')), some (.int (nI w')), some (.int (nI (kyF (wgt n c t') b))), some (.int 0), some (.int 1), l7]) (sk' := [.int 1, .int (pI (Nat.testBit (b / 64 % 64) (w' - 1) = true))]) (st' := s1) (fun _ h => h) ?_
              refine w_cmp_ne rfl (fun h6 => ?_) (fun h6 => ?_)
              · replace h6 := fun hh => h6 (pI_eq1.mpr hh)
                refine w_blk 3 (pc' := 210) (ls' := [some (.ref 53), some (.int (nI q)), some (.int (nI t')), some (.int (nI w')), some (.int (nI (kyF (wgt n c t') b))), some (.int 0), some (.int (1 + 1)), l7]) (sk' := []) (st' := s1) (fun _ h => h) ?_
                rw [show (1 + 1 : Int32) = 2 from rfl]
                refine w_blk 3 (pc' := 173) (ls' := [some (.ref 53), some (.int (nI q)), some (.int (nI t')), some (.int (nI w')), some (.int (nI (kyF (wgt n c t') b))), some (.int 0), some (.int 2), l7]) (sk' := [.int 3, .int 2]) (st' := s1) (fun _ h => h) ?_
                refine w_cmp_ge rfl (fun hno => absurd hno (by decide)) (fun _ => ?_)
                refine w_blk 3 (pc' := 182) (ls' := [some (.ref 53), some (.int (nI q)), some (.int (nI t')), some (.int (nI w')), some (.int (nI (kyF (wgt n c t') b))), some (.int 0), some (.int 2), l7]) (sk' := [.int 2, .ref 77]) (st' := s1) (fun _ h => h) ?_
                refine w_iald rfl rfl (vp_in_nI (n := 2) (N := 3) (by decide) (by decide)) ?_
                rw [show Int32.toNatClampNeg (2 : Int32) = 2 from rfl]
                rw [hM.2.2]
                refine w_blk 3 (pc' := 186) (ls' := [some (.ref 53), some (.int (nI q)), some (.int (nI t')), some (.int (nI w')), some (.int (nI (kyF (wgt n c t') b))), some (.int 0), some (.int 2), l7]) (sk' := [.int ((nI w') - 1), .int (nI (b % 64))]) (st' := s1) (fun _ h => h) ?_
                rw [show ((nI w') - 1) = nI (w' - 1) from pk_sub (a := w') (b := 1) (by omega)]
                refine w_blk 3 (pc' := 189) (ls' := [some (.ref 53), some (.int (nI q)), some (.int (nI t')), some (.int (nI w')), some (.int (nI (kyF (wgt n c t') b))), some (.int 0), some (.int 2), l7]) (sk' := [.int (((nI (b % 64)) >>> ((nI (w' - 1)) &&& 31)) &&& 1)]) (st' := s1) (fun _ h => h) ?_
                rw [show (((nI (b % 64)) >>> ((nI (w' - 1)) &&& 31)) &&& 1) = pI (Nat.testBit (b % 64) (w' - 1) = true) from nI_bit (by omega) (by omega)]
                refine w_blk 1 (pc' := 190) (ls' := [some (.ref 53), some (.int (nI q)), some (.int (nI t')), some (.int (nI w')), some (.int (nI (kyF (wgt n c t') b))), some (.int 0), some (.int 2), l7]) (sk' := [.int 1, .int (pI (Nat.testBit (b % 64) (w' - 1) = true))]) (st' := s1) (fun _ h => h) ?_
                refine w_cmp_ne rfl (fun h7 => ?_) (fun h7 => ?_)
                · replace h7 := fun hh => h7 (pI_eq1.mpr hh)
                  refine w_blk 3 (pc' := 210) (ls' := [some (.ref 53), some (.int (nI q)), some (.int (nI t')), some (.int (nI w')), some (.int (nI (kyF (wgt n c t') b))), some (.int 0), some (.int (2 + 1)), l7]) (sk' := []) (st' := s1) (fun _ h => h) ?_
                  rw [show (2 + 1 : Int32) = 3 from rfl]
                  refine w_blk 3 (pc' := 173) (ls' := [some (.ref 53), some (.int (nI q)), some (.int (nI t')), some (.int (nI w')), some (.int (nI (kyF (wgt n c t') b))), some (.int 0), some (.int 3), l7]) (sk' := [.int 3, .int 3]) (st' := s1) (fun _ h => h) ?_
                  refine w_cmp_ge rfl (fun _ => ?_) (fun hno => absurd (by decide) hno)
                  refine w_blk 1 (pc' := 215) (ls' := [some (.ref 53), some (.int (nI q)), some (.int (nI t')), some (.int (nI w')), some (.int (nI (kyF (wgt n c t') b))), some (.int 0), some (.int 3), l7]) (sk' := [.int 0]) (st' := s1) (fun _ h => h) ?_
                  exact w_iret rfl rfl rfl (hq _ s1 ⟨(if_pos hok : RGs n c (nI q) (nI t') (nI w') _ = _).mpr ⟨b, by rw [ec1, ec2]; exact hsp2, by rw [ec3, if_neg (show ¬ nI w' = (0 : Int32) from fun e => h4 ((nI_eq (a := w') (b := 0) (by omega) (by omega)).mp e)), han (w' - 1) (by omega), show anM b (w' - 1) = 0 from (if_neg h7).trans ((if_neg h6).trans (if_neg h5))]; rfl⟩, hf⟩)
                · replace h7 := pI_eq1.mp (Decidable.not_not.mp h7)
                  refine w_blk 3 (pc' := 199) (ls' := [some (.ref 53), some (.int (nI q)), some (.int (nI t')), some (.int (nI w')), some (.int (nI (kyF (wgt n c t') b))), some (.int 0), some (.int 2), l7]) (sk' := [.int 2, .ref 77]) (st' := s1) (fun _ h => h) ?_
                  refine w_iald rfl rfl (vp_in_nI (n := 2) (N := 3) (by decide) (by decide)) ?_
                  rw [show Int32.toNatClampNeg (2 : Int32) = 2 from rfl]
                  rw [hM.2.2]
                  refine w_blk 3 (pc' := 210) (ls' := [some (.ref 53), some (.int (nI q)), some (.int (nI t')), some (.int (nI w')), some (.int (nI (kyF (wgt n c t') b))), some (.int (nI (b % 64))), some (.int (2 + 1)), l7]) (sk' := []) (st' := s1) (fun _ h => h) ?_
                  rw [show (2 + 1 : Int32) = 3 from rfl]
                  refine w_blk 3 (pc' := 173) (ls' := [some (.ref 53), some (.int (nI q)), some (.int (nI t')), some (.int (nI w')), some (.int (nI (kyF (wgt n c t') b))), some (.int (nI (b % 64))), some (.int 3), l7]) (sk' := [.int 3, .int 3]) (st' := s1) (fun _ h => h) ?_
                  refine w_cmp_ge rfl (fun _ => ?_) (fun hno => absurd (by decide) hno)
                  refine w_blk 1 (pc' := 215) (ls' := [some (.ref 53), some (.int (nI q)), some (.int (nI t')), some (.int (nI w')), some (.int (nI (kyF (wgt n c t') b))), some (.int (nI (b % 64))), some (.int 3), l7]) (sk' := [.int (nI (b % 64))]) (st' := s1) (fun _ h => h) ?_
                  exact w_iret rfl rfl rfl (hq _ s1 ⟨(if_pos hok : RGs n c (nI q) (nI t') (nI w') _ = _).mpr ⟨b, by rw [ec1, ec2]; exact hsp2, by rw [ec3, if_neg (show ¬ nI w' = (0 : Int32) from fun e => h4 ((nI_eq (a := w') (b := 0) (by omega) (by omega)).mp e)), han (w' - 1) (by omega), show anM b (w' - 1) = b % 64 from if_pos h7]⟩, hf⟩)
              · replace h6 := pI_eq1.mp (Decidable.not_not.mp h6)
                refine w_blk 3 (pc' := 199) (ls' := [some (.ref 53), some (.int (nI q)), some (.int (nI t')), some (.int (nI w')), some (.int (nI (kyF (wgt n c t') b))), some (.int 0), some (.int 1), l7]) (sk' := [.int 1, .ref 77]) (st' := s1) (fun _ h => h) ?_
                refine w_iald rfl rfl (vp_in_nI (n := 1) (N := 3) (by decide) (by decide)) ?_
                rw [show Int32.toNatClampNeg (1 : Int32) = 1 from rfl]
                rw [hM.2.1]
                refine w_blk 3 (pc' := 210) (ls' := [some (.ref 53), some (.int (nI q)), some (.int (nI t')), some (.int (nI w')), some (.int (nI (kyF (wgt n c t') b))), some (.int (nI (b / 64 % 64))), some (.int (1 + 1)), l7]) (sk' := []) (st' := s1) (fun _ h => h) ?_
                rw [show (1 + 1 : Int32) = 2 from rfl]
                refine w_blk 3 (pc' := 173) (ls' := [some (.ref 53), some (.int (nI q)), some (.int (nI t')), some (.int (nI w')), some (.int (nI (kyF (wgt n c t') b))), some (.int (nI (b / 64 % 64))), some (.int 2), l7]) (sk' := [.int 3, .int 2]) (st' := s1) (fun _ h => h) ?_
                refine w_cmp_ge rfl (fun hno => absurd hno (by decide)) (fun _ => ?_)
                refine w_blk 3 (pc' := 182) (ls' := [some (.ref 53), some (.int (nI q)), some (.int (nI t')), some (.int (nI w')), some (.int (nI (kyF (wgt n c t') b))), some (.int (nI (b / 64 % 64))), some (.int 2), l7]) (sk' := [.int 2, .ref 77]) (st' := s1) (fun _ h => h) ?_
                refine w_iald rfl rfl (vp_in_nI (n := 2) (N := 3) (by decide) (by decide)) ?_
                rw [show Int32.toNatClampNeg (2 : Int32) = 2 from rfl]
                rw [hM.2.2]
                refine w_blk 3 (pc' := 186) (ls' := [some (.ref 53), some (.int (nI q)), some (.int (nI t')), some (.int (nI w')), some (.int (nI (kyF (wgt n c t') b))), some (.int (nI (b / 64 % 64))), some (.int 2), l7]) (sk' := [.int ((nI w') - 1), .int (nI (b % 64))]) (st' := s1) (fun _ h => h) ?_
                rw [show ((nI w') - 1) = nI (w' - 1) from pk_sub (a := w') (b := 1) (by omega)]
                refine w_blk 3 (pc' := 189) (ls' := [some (.ref 53), some (.int (nI q)), some (.int (nI t')), some (.int (nI w')), some (.int (nI (kyF (wgt n c t') b))), some (.int (nI (b / 64 % 64))), some (.int 2), l7]) (sk' := [.int (((nI (b % 64)) >>> ((nI (w' - 1)) &&& 31)) &&& 1)]) (st' := s1) (fun _ h => h) ?_
                rw [show (((nI (b % 64)) >>> ((nI (w' - 1)) &&& 31)) &&& 1) = pI (Nat.testBit (b % 64) (w' - 1) = true) from nI_bit (by omega) (by omega)]
                refine w_blk 1 (pc' := 190) (ls' := [some (.ref 53), some (.int (nI q)), some (.int (nI t')), some (.int (nI w')), some (.int (nI (kyF (wgt n c t') b))), some (.int (nI (b / 64 % 64))), some (.int 2), l7]) (sk' := [.int 1, .int (pI (Nat.testBit (b % 64) (w' - 1) = true))]) (st' := s1) (fun _ h => h) ?_
                refine w_cmp_ne rfl (fun h7 => ?_) (fun h7 => ?_)
                · replace h7 := fun hh => h7 (pI_eq1.mpr hh)
                  refine w_blk 3 (pc' := 210) (ls' := [some (.ref 53), some (.int (nI q)), some (.int (nI t')), some (.int (nI w')), some (.int (nI (kyF (wgt n c t') b))), some (.int (nI (b / 64 % 64))), some (.int (2 + 1)), l7]) (sk' := []) (st' := s1) (fun _ h => h) ?_
                  rw [show (2 + 1 : Int32) = 3 from rfl]
                  refine w_blk 3 (pc' := 173) (ls' := [some (.ref 53), some (.int (nI q)), some (.int (nI t')), some (.int (nI w')), some (.int (nI (kyF (wgt n c t') b))), some (.int (nI (b / 64 % 64))), some (.int 3), l7]) (sk' := [.int 3, .int 3]) (st' := s1) (fun _ h => h) ?_
                  refine w_cmp_ge rfl (fun _ => ?_) (fun hno => absurd (by decide) hno)
                  refine w_blk 1 (pc' := 215) (ls' := [some (.ref 53), some (.int (nI q)), some (.int (nI t')), some (.int (nI w')), some (.int (nI (kyF (wgt n c t') b))), some (.int (nI (b / 64 % 64))), some (.int 3), l7]) (sk' := [.int (nI (b / 64 % 64))]) (st' := s1) (fun _ h => h) ?_
                  exact w_iret rfl rfl rfl (hq _ s1 ⟨(if_pos hok : RGs n c (nI q) (nI t') (nI w') _ = _).mpr ⟨b, by rw [ec1, ec2]; exact hsp2, by rw [ec3, if_neg (show ¬ nI w' = (0 : Int32) from fun e => h4 ((nI_eq (a := w') (b := 0) (by omega) (by omega)).mp e)), han (w' - 1) (by omega), show anM b (w' - 1) = b / 64 % 64 from (if_neg h7).trans (if_pos h6)]⟩, hf⟩)
                · replace h7 := pI_eq1.mp (Decidable.not_not.mp h7)
                  refine w_blk 3 (pc' := 199) (ls' := [some (.ref 53), some (.int (nI q)), some (.int (nI t')), some (.int (nI w')), some (.int (nI (kyF (wgt n c t') b))), some (.int (nI (b / 64 % 64))), some (.int 2), l7]) (sk' := [.int 2, .ref 77]) (st' := s1) (fun _ h => h) ?_
                  refine w_iald rfl rfl (vp_in_nI (n := 2) (N := 3) (by decide) (by decide)) ?_
                  rw [show Int32.toNatClampNeg (2 : Int32) = 2 from rfl]
                  rw [hM.2.2]
                  refine w_blk 3 (pc' := 210) (ls' := [some (.ref 53), some (.int (nI q)), some (.int (nI t')), some (.int (nI w')), some (.int (nI (kyF (wgt n c t') b))), some (.int (nI (b % 64))), some (.int (2 + 1)), l7]) (sk' := []) (st' := s1) (fun _ h => h) ?_
                  rw [show (2 + 1 : Int32) = 3 from rfl]
                  refine w_blk 3 (pc' := 173) (ls' := [some (.ref 53), some (.int (nI q)), some (.int (nI t')), some (.int (nI w')), some (.int (nI (kyF (wgt n c t') b))), some (.int (nI (b % 64))), some (.int 3), l7]) (sk' := [.int 3, .int 3]) (st' := s1) (fun _ h => h) ?_
                  refine w_cmp_ge rfl (fun _ => ?_) (fun hno => absurd (by decide) hno)
                  refine w_blk 1 (pc' := 215) (ls' := [some (.ref 53), some (.int (nI q)), some (.int (nI t')), some (.int (nI w')), some (.int (nI (kyF (wgt n c t') b))), some (.int (nI (b % 64))), some (.int 3), l7]) (sk' := [.int (nI (b % 64))]) (st' := s1) (fun _ h => h) ?_
                  exact w_iret rfl rfl rfl (hq _ s1 ⟨(if_pos hok : RGs n c (nI q) (nI t') (nI w') _ = _).mpr ⟨b, by rw [ec1, ec2]; exact hsp2, by rw [ec3, if_neg (show ¬ nI w' = (0 : Int32) from fun e => h4 ((nI_eq (a := w') (b := 0) (by omega) (by omega)).mp e)), han (w' - 1) (by omega), show anM b (w' - 1) = b % 64 from if_pos h7]⟩, hf⟩)
            · replace h5 := pI_eq1.mp (Decidable.not_not.mp h5)
              refine w_blk 3 (pc' := 199) (ls' := [some (.ref 53), some (.int (nI q)), some (.int (nI t')), some (.int (nI w')), some (.int (nI (kyF (wgt n c t') b))), some (.int 0), some (.int 0), l7]) (sk' := [.int 0, .ref 77]) (st' := s1) (fun _ h => h) ?_
              refine w_iald rfl rfl (vp_in_nI (n := 0) (N := 3) (by decide) (by decide)) ?_
              rw [show Int32.toNatClampNeg (0 : Int32) = 0 from rfl]
              rw [hM.1]
              refine w_blk 3 (pc' := 210) (ls' := [some (.ref 53), some (.int (nI q)), some (.int (nI t')), some (.int (nI w')), some (.int (nI (kyF (wgt n c t') b))), some (.int (nI (b / 4096))), some (.int (0 + 1)), l7]) (sk' := []) (st' := s1) (fun _ h => h) ?_
              rw [show (0 + 1 : Int32) = 1 from rfl]
              refine w_blk 3 (pc' := 173) (ls' := [some (.ref 53), some (.int (nI q)), some (.int (nI t')), some (.int (nI w')), some (.int (nI (kyF (wgt n c t') b))), some (.int (nI (b / 4096))), some (.int 1), l7]) (sk' := [.int 3, .int 1]) (st' := s1) (fun _ h => h) ?_
              refine w_cmp_ge rfl (fun hno => absurd hno (by decide)) (fun _ => ?_)
              refine w_blk 3 (pc' := 182) (ls' := [some (.ref 53), some (.int (nI q)), some (.int (nI t')), some (.int (nI w')), some (.int (nI (kyF (wgt n c t') b))), some (.int (nI (b / 4096))), some (.int 1), l7]) (sk' := [.int 1, .ref 77]) (st' := s1) (fun _ h => h) ?_
              refine w_iald rfl rfl (vp_in_nI (n := 1) (N := 3) (by decide) (by decide)) ?_
              rw [show Int32.toNatClampNeg (1 : Int32) = 1 from rfl]
              rw [hM.2.1]
              refine w_blk 3 (pc' := 186) (ls' := [some (.ref 53), some (.int (nI q)), some (.int (nI t')), some (.int (nI w')), some (.int (nI (kyF (wgt n c t') b))), some (.int (nI (b / 4096))), some (.int 1), l7]) (sk' := [.int ((nI w') - 1), .int (nI (b / 64 % 64))]) (st' := s1) (fun _ h => h) ?_
              rw [show ((nI w') - 1) = nI (w' - 1) from pk_sub (a := w') (b := 1) (by omega)]
              refine w_blk 3 (pc' := 189) (ls' := [some (.ref 53), some (.int (nI q)), some (.int (nI t')), some (.int (nI w')), some (.int (nI (kyF (wgt n c t') b))), some (.int (nI (b / 4096))), some (.int 1), l7]) (sk' := [.int (((nI (b / 64 % 64)) >>> ((nI (w' - 1)) &&& 31)) &&& 1)]) (st' := s1) (fun _ h => h) ?_
              rw [show (((nI (b / 64 % 64)) >>> ((nI (w' - 1)) &&& 31)) &&& 1) = pI (Nat.testBit (b / 64 % 64) (w' - 1) = true) from nI_bit (by omega) (by omega)]
              refine w_blk 1 (pc' := 190) (ls' := [some (.ref 53), some (.int (nI q)), some (.int (nI t')), some (.int (nI w')), some (.int (nI (kyF (wgt n c t') b))), some (.int (nI (b / 4096))), some (.int 1), l7]) (sk' := [.int 1, .int (pI (Nat.testBit (b / 64 % 64) (w' - 1) = true))]) (st' := s1) (fun _ h => h) ?_
              refine w_cmp_ne rfl (fun h6 => ?_) (fun h6 => ?_)
              · replace h6 := fun hh => h6 (pI_eq1.mpr hh)
                refine w_blk 3 (pc' := 210) (ls' := [some (.ref 53), some (.int (nI q)), some (.int (nI t')), some (.int (nI w')), some (.int (nI (kyF (wgt n c t') b))), some (.int (nI (b / 4096))), some (.int (1 + 1)), l7]) (sk' := []) (st' := s1) (fun _ h => h) ?_
                rw [show (1 + 1 : Int32) = 2 from rfl]
                refine w_blk 3 (pc' := 173) (ls' := [some (.ref 53), some (.int (nI q)), some (.int (nI t')), some (.int (nI w')), some (.int (nI (kyF (wgt n c t') b))), some (.int (nI (b / 4096))), some (.int 2), l7]) (sk' := [.int 3, .int 2]) (st' := s1) (fun _ h => h) ?_
                refine w_cmp_ge rfl (fun hno => absurd hno (by decide)) (fun _ => ?_)
                refine w_blk 3 (pc' := 182) (ls' := [some (.ref 53), some (.int (nI q)), some (.int (nI t')), some (.int (nI w')), some (.int (nI (kyF (wgt n c t') b))), some (.int (nI (b / 4096))), some (.int 2), l7]) (sk' := [.int 2, .ref 77]) (st' := s1) (fun _ h => h) ?_
                refine w_iald rfl rfl (vp_in_nI (n := 2) (N := 3) (by decide) (by decide)) ?_
                rw [show Int32.toNatClampNeg (2 : Int32) = 2 from rfl]
                rw [hM.2.2]
                refine w_blk 3 (pc' := 186) (ls' := [some (.ref 53), some (.int (nI q)), some (.int (nI t')), some (.int (nI w')), some (.int (nI (kyF (wgt n c t') b))), some (.int (nI (b / 4096))), some (.int 2), l7]) (sk' := [.int ((nI w') - 1), .int (nI (b % 64))]) (st' := s1) (fun _ h => h) ?_
                rw [show ((nI w') - 1) = nI (w' - 1) from pk_sub (a := w') (b := 1) (by omega)]
                refine w_blk 3 (pc' := 189) (ls' := [some (.ref 53), some (.int (nI q)), some (.int (nI t')), some (.int (nI w')), some (.int (nI (kyF (wgt n c t') b))), some (.int (nI (b / 4096))), some (.int 2), l7]) (sk' := [.int (((nI (b % 64)) >>> ((nI (w' - 1)) &&& 31)) &&& 1)]) (st' := s1) (fun _ h => h) ?_
                rw [show (((nI (b % 64)) >>> ((nI (w' - 1)) &&& 31)) &&& 1) = pI (Nat.testBit (b % 64) (w' - 1) = true) from nI_bit (by omega) (by omega)]
                refine w_blk 1 (pc' := 190) (ls' := [some (.ref 53), some (.int (nI q)), some (.int (nI t')), some (.int (nI w')), some (.int (nI (kyF (wgt n c t') b))), some (.int (nI (b / 4096))), some (.int 2), l7]) (sk' := [.int 1, .int (pI (Nat.testBit (b % 64) (w' - 1) = true))]) (st' := s1) (fun _ h => h) ?_
                refine w_cmp_ne rfl (fun h7 => ?_) (fun h7 => ?_)
                · replace h7 := fun hh => h7 (pI_eq1.mpr hh)
                  refine w_blk 3 (pc' := 210) (ls' := [some (.ref 53), some (.int (nI q)), some (.int (nI t')), some (.int (nI w')), some (.int (nI (kyF (wgt n c t') b))), some (.int (nI (b / 4096))), some (.int (2 + 1)), l7]) (sk' := []) (st' := s1) (fun _ h => h) ?_
                  rw [show (2 + 1 : Int32) = 3 from rfl]
                  refine w_blk 3 (pc' := 173) (ls' := [some (.ref 53), some (.int (nI q)), some (.int (nI t')), some (.int (nI w')), some (.int (nI (kyF (wgt n c t') b))), some (.int (nI (b / 4096))), some (.int 3), l7]) (sk' := [.int 3, .int 3]) (st' := s1) (fun _ h => h) ?_
                  refine w_cmp_ge rfl (fun _ => ?_) (fun hno => absurd (by decide) hno)
                  refine w_blk 1 (pc' := 215) (ls' := [some (.ref 53), some (.int (nI q)), some (.int (nI t')), some (.int (nI w')), some (.int (nI (kyF (wgt n c t') b))), some (.int (nI (b / 4096))), some (.int 3), l7]) (sk' := [.int (nI (b / 4096))]) (st' := s1) (fun _ h => h) ?_
                  exact w_iret rfl rfl rfl (hq _ s1 ⟨(if_pos hok : RGs n c (nI q) (nI t') (nI w') _ = _).mpr ⟨b, by rw [ec1, ec2]; exact hsp2, by rw [ec3, if_neg (show ¬ nI w' = (0 : Int32) from fun e => h4 ((nI_eq (a := w') (b := 0) (by omega) (by omega)).mp e)), han (w' - 1) (by omega), show anM b (w' - 1) = b / 4096 from (if_neg h7).trans ((if_neg h6).trans (if_pos h5))]⟩, hf⟩)
                · replace h7 := pI_eq1.mp (Decidable.not_not.mp h7)
                  refine w_blk 3 (pc' := 199) (ls' := [some (.ref 53), some (.int (nI q)), some (.int (nI t')), some (.int (nI w')), some (.int (nI (kyF (wgt n c t') b))), some (.int (nI (b / 4096))), some (.int 2), l7]) (sk' := [.int 2, .ref 77]) (st' := s1) (fun _ h => h) ?_
                  refine w_iald rfl rfl (vp_in_nI (n := 2) (N := 3) (by decide) (by decide)) ?_
                  rw [show Int32.toNatClampNeg (2 : Int32) = 2 from rfl]
                  rw [hM.2.2]
                  refine w_blk 3 (pc' := 210) (ls' := [some (.ref 53), some (.int (nI q)), some (.int (nI t')), some (.int (nI w')), some (.int (nI (kyF (wgt n c t') b))), some (.int (nI (b % 64))), some (.int (2 + 1)), l7]) (sk' := []) (st' := s1) (fun _ h => h) ?_
                  rw [show (2 + 1 : Int32) = 3 from rfl]
                  refine w_blk 3 (pc' := 173) (ls' := [some (.ref 53), some (.int (nI q)), some (.int (nI t')), some (.int (nI w')), some (.int (nI (kyF (wgt n c t') b))), some (.int (nI (b % 64))), some (.int 3), l7]) (sk' := [.int 3, .int 3]) (st' := s1) (fun _ h => h) ?_
                  refine w_cmp_ge rfl (fun _ => ?_) (fun hno => absurd (by decide) hno)
                  refine w_blk 1 (pc' := 215) (ls' := [some (.ref 53), some (.int (nI q)), some (.int (nI t')), some (.int (nI w')), some (.int (nI (kyF (wgt n c t') b))), some (.int (nI (b % 64))), some (.int 3), l7]) (sk' := [.int (nI (b % 64))]) (st' := s1) (fun _ h => h) ?_
                  exact w_iret rfl rfl rfl (hq _ s1 ⟨(if_pos hok : RGs n c (nI q) (nI t') (nI w') _ = _).mpr ⟨b, by rw [ec1, ec2]; exact hsp2, by rw [ec3, if_neg (show ¬ nI w' = (0 : Int32) from fun e => h4 ((nI_eq (a := w') (b := 0) (by omega) (by omega)).mp e)), han (w' - 1) (by omega), show anM b (w' - 1) = b % 64 from if_pos h7]⟩, hf⟩)
              · replace h6 := pI_eq1.mp (Decidable.not_not.mp h6)
                refine w_blk 3 (pc' := 199) (ls' := [some (.ref 53), some (.int (nI q)), some (.int (nI t')), some (.int (nI w')), some (.int (nI (kyF (wgt n c t') b))), some (.int (nI (b / 4096))), some (.int 1), l7]) (sk' := [.int 1, .ref 77]) (st' := s1) (fun _ h => h) ?_
                refine w_iald rfl rfl (vp_in_nI (n := 1) (N := 3) (by decide) (by decide)) ?_
                rw [show Int32.toNatClampNeg (1 : Int32) = 1 from rfl]
                rw [hM.2.1]
                refine w_blk 3 (pc' := 210) (ls' := [some (.ref 53), some (.int (nI q)), some (.int (nI t')), some (.int (nI w')), some (.int (nI (kyF (wgt n c t') b))), some (.int (nI (b / 64 % 64))), some (.int (1 + 1)), l7]) (sk' := []) (st' := s1) (fun _ h => h) ?_
                rw [show (1 + 1 : Int32) = 2 from rfl]
                refine w_blk 3 (pc' := 173) (ls' := [some (.ref 53), some (.int (nI q)), some (.int (nI t')), some (.int (nI w')), some (.int (nI (kyF (wgt n c t') b))), some (.int (nI (b / 64 % 64))), some (.int 2), l7]) (sk' := [.int 3, .int 2]) (st' := s1) (fun _ h => h) ?_
                refine w_cmp_ge rfl (fun hno => absurd hno (by decide)) (fun _ => ?_)
                refine w_blk 3 (pc' := 182) (ls' := [some (.ref 53), some (.int (nI q)), some (.int (nI t')), some (.int (nI w')), some (.int (nI (kyF (wgt n c t') b))), some (.int (nI (b / 64 % 64))), some (.int 2), l7]) (sk' := [.int 2, .ref 77]) (st' := s1) (fun _ h => h) ?_
                refine w_iald rfl rfl (vp_in_nI (n := 2) (N := 3) (by decide) (by decide)) ?_
                rw [show Int32.toNatClampNeg (2 : Int32) = 2 from rfl]
                rw [hM.2.2]
                refine w_blk 3 (pc' := 186) (ls' := [some (.ref 53), some (.int (nI q)), some (.int (nI t')), some (.int (nI w')), some (.int (nI (kyF (wgt n c t') b))), some (.int (nI (b / 64 % 64))), some (.int 2), l7]) (sk' := [.int ((nI w') - 1), .int (nI (b % 64))]) (st' := s1) (fun _ h => h) ?_
                rw [show ((nI w') - 1) = nI (w' - 1) from pk_sub (a := w') (b := 1) (by omega)]
                refine w_blk 3 (pc' := 189) (ls' := [some (.ref 53), some (.int (nI q)), some (.int (nI t')), some (.int (nI w')), some (.int (nI (kyF (wgt n c t') b))), some (.int (nI (b / 64 % 64))), some (.int 2), l7]) (sk' := [.int (((nI (b % 64)) >>> ((nI (w' - 1)) &&& 31)) &&& 1)]) (st' := s1) (fun _ h => h) ?_
                rw [show (((nI (b % 64)) >>> ((nI (w' - 1)) &&& 31)) &&& 1) = pI (Nat.testBit (b % 64) (w' - 1) = true) from nI_bit (by omega) (by omega)]
                refine w_blk 1 (pc' := 190) (ls' := [some (.ref 53), some (.int (nI q)), some (.int (nI t')), some (.int (nI w')), some (.int (nI (kyF (wgt n c t') b))), some (.int (nI (b / 64 % 64))), some (.int 2), l7]) (sk' := [.int 1, .int (pI (Nat.testBit (b % 64) (w' - 1) = true))]) (st' := s1) (fun _ h => h) ?_
                refine w_cmp_ne rfl (fun h7 => ?_) (fun h7 => ?_)
                · replace h7 := fun hh => h7 (pI_eq1.mpr hh)
                  refine w_blk 3 (pc' := 210) (ls' := [some (.ref 53), some (.int (nI q)), some (.int (nI t')), some (.int (nI w')), some (.int (nI (kyF (wgt n c t') b))), some (.int (nI (b / 64 % 64))), some (.int (2 + 1)), l7]) (sk' := []) (st' := s1) (fun _ h => h) ?_
                  rw [show (2 + 1 : Int32) = 3 from rfl]
                  refine w_blk 3 (pc' := 173) (ls' := [some (.ref 53), some (.int (nI q)), some (.int (nI t')), some (.int (nI w')), some (.int (nI (kyF (wgt n c t') b))), some (.int (nI (b / 64 % 64))), some (.int 3), l7]) (sk' := [.int 3, .int 3]) (st' := s1) (fun _ h => h) ?_
                  refine w_cmp_ge rfl (fun _ => ?_) (fun hno => absurd (by decide) hno)
                  refine w_blk 1 (pc' := 215) (ls' := [some (.ref 53), some (.int (nI q)), some (.int (nI t')), some (.int (nI w')), some (.int (nI (kyF (wgt n c t') b))), some (.int (nI (b / 64 % 64))), some (.int 3), l7]) (sk' := [.int (nI (b / 64 % 64))]) (st' := s1) (fun _ h => h) ?_
                  exact w_iret rfl rfl rfl (hq _ s1 ⟨(if_pos hok : RGs n c (nI q) (nI t') (nI w') _ = _).mpr ⟨b, by rw [ec1, ec2]; exact hsp2, by rw [ec3, if_neg (show ¬ nI w' = (0 : Int32) from fun e => h4 ((nI_eq (a := w') (b := 0) (by omega) (by omega)).mp e)), han (w' - 1) (by omega), show anM b (w' - 1) = b / 64 % 64 from (if_neg h7).trans (if_pos h6)]⟩, hf⟩)
                · replace h7 := pI_eq1.mp (Decidable.not_not.mp h7)
                  refine w_blk 3 (pc' := 199) (ls' := [some (.ref 53), some (.int (nI q)), some (.int (nI t')), some (.int (nI w')), some (.int (nI (kyF (wgt n c t') b))), some (.int (nI (b / 64 % 64))), some (.int 2), l7]) (sk' := [.int 2, .ref 77]) (st' := s1) (fun _ h => h) ?_
                  refine w_iald rfl rfl (vp_in_nI (n := 2) (N := 3) (by decide) (by decide)) ?_
                  rw [show Int32.toNatClampNeg (2 : Int32) = 2 from rfl]
                  rw [hM.2.2]
                  refine w_blk 3 (pc' := 210) (ls' := [some (.ref 53), some (.int (nI q)), some (.int (nI t')), some (.int (nI w')), some (.int (nI (kyF (wgt n c t') b))), some (.int (nI (b % 64))), some (.int (2 + 1)), l7]) (sk' := []) (st' := s1) (fun _ h => h) ?_
                  rw [show (2 + 1 : Int32) = 3 from rfl]
                  refine w_blk 3 (pc' := 173) (ls' := [some (.ref 53), some (.int (nI q)), some (.int (nI t')), some (.int (nI w')), some (.int (nI (kyF (wgt n c t') b))), some (.int (nI (b % 64))), some (.int 3), l7]) (sk' := [.int 3, .int 3]) (st' := s1) (fun _ h => h) ?_
                  refine w_cmp_ge rfl (fun _ => ?_) (fun hno => absurd (by decide) hno)
                  refine w_blk 1 (pc' := 215) (ls' := [some (.ref 53), some (.int (nI q)), some (.int (nI t')), some (.int (nI w')), some (.int (nI (kyF (wgt n c t') b))), some (.int (nI (b % 64))), some (.int 3), l7]) (sk' := [.int (nI (b % 64))]) (st' := s1) (fun _ h => h) ?_
                  exact w_iret rfl rfl rfl (hq _ s1 ⟨(if_pos hok : RGs n c (nI q) (nI t') (nI w') _ = _).mpr ⟨b, by rw [ec1, ec2]; exact hsp2, by rw [ec3, if_neg (show ¬ nI w' = (0 : Int32) from fun e => h4 ((nI_eq (a := w') (b := 0) (by omega) (by omega)).mp e)), han (w' - 1) (by omega), show anM b (w' - 1) = b % 64 from if_pos h7]⟩, hf⟩)
          · replace h4 : w' = 0 := (nI_eq (a := w') (b := 0) (by omega) (by omega)).mp (Decidable.not_not.mp h4)
            refine w_blk 1 (pc' := 163) (ls' := [some (.ref 53), some (.int (nI q)), some (.int (nI t')), some (.int (nI w')), some (.int (nI (kyF (wgt n c t') b))), some (.int (nI 729)), l6, l7]) (sk' := [.int (nI (kyF (wgt n c t') b))]) (st' := s1) (fun _ h => h) ?_
            exact w_iret rfl rfl rfl (hq _ s1 ⟨(if_pos hok : RGs n c (nI q) (nI t') (nI w') _ = _).mpr ⟨b, by rw [ec1, ec2]; exact hsp2, by rw [ec2, if_pos (show nI w' = (0 : Int32) from (nI_eq (a := w') (b := 0) (by omega) (by omega)).mpr h4)]⟩, hf⟩)
        | succ m ih =>
          intro i T s1 l6 l7 hi hf hM hSP
          have hR1 : MR s1 n c := MR_fr hf (by decide) hR
          refine w_blk 2 (pc' := 47) (ls' := [some (.ref 53), some (.int (nI q)), some (.int (nI t')), some (.int (nI w')), some (.int (eTr (kyF (wgt n c t')) T)), some (.int (nI i)), l6, l7]) (sk' := [.int 729, .int (nI i)]) (st' := s1) (fun _ h => h) ?_
          refine w_cmp_ge rfl (fun hno => absurd hno (nI_ge (a := i) (b := 729) (by omega) (by omega))) (fun _ => ?_)
          refine w_blk 3 (pc' := 54) (ls' := [some (.ref 53), some (.int (nI q)), some (.int (nI t')), some (.int (nI w')), some (.int (eTr (kyF (wgt n c t')) T)), some (.int (nI i)), l6, l7]) (sk' := [.int (nI q), .int (nI i), .ref 53]) (st' := s1) (fun _ h => h) ?_
          obtain ⟨s1, hc_2, hp_3, hf_4⟩ := m_part (d + 0) n c q i s1 hR1 hB (by omega) (by omega)
          refine w_callV (As := [.ref 53, .int (nI i), .int (nI q)]) (rest := []) rfl rfl rfl (Nat.le_of_ble_eq_true rfl) (Nat.le_of_ble_eq_true rfl) (by first | exact Or.inl ⟨rfl, rfl⟩ | exact Or.inr ⟨rfl, rfl⟩) hc_2 ?_
          have hM2 : PMr s1 T := PMr_e (hf_4.1 77 (by decide)) hM
          have hf2 : Fr [76, 77] st s1 := Fr.trans hf (Fr.mono hf_4 (by decide))
          have hR2 : MR s1 n c := MR_fr hf2 (by decide) hR
          refine w_if_eq rfl (fun h4 => ?_) (fun h4 => ?_)
          · replace h4 := pI_eq0.mp h4
            refine w_blk 1 (pc' := 154) (ls' := [some (.ref 53), some (.int (nI q)), some (.int (nI t')), some (.int (nI w')), some (.int (eTr (kyF (wgt n c t')) T)), some (.int ((nI i) + 1)), l6, l7]) (sk' := []) (st' := s1) (fun _ h => h) ?_
            rw [show ((nI i) + 1) = nI (i + 1) from nI_add i 1]
            refine w_blk 1 (pc' := 42) (ls' := [some (.ref 53), some (.int (nI q)), some (.int (nI t')), some (.int (nI w')), some (.int (eTr (kyF (wgt n c t')) T)), some (.int (nI (i + 1))), l6, l7]) (sk' := []) (st' := s1) (fun _ h => h) ?_
            exact ih (i + 1) T s1 l6 l7 (by omega) hf2 hM2 (by rw [mL_none (Option.not_isSome_iff_eq_none.mp h4)]; exact hSP)
          · replace h4 := pI_ne.mp h4
            obtain ⟨k, hk⟩ := Option.isSome_iff_exists.mp h4
            obtain ⟨hk18, hG⟩ := hp_3 k hk
            have w1 := hwg (k / 4096)
            have w2 := hwg (k / 64 % 64)
            have w3 := hwg (k % 64)
            have hFk : kyF (wgt n c t') k = wgt n c t' (k / 4096) + wgt n c t' (k / 64 % 64) + wgt n c t' (k % 64) := rfl
            refine w_blk 4 (pc' := 66) (ls' := [some (.ref 53), some (.int (nI q)), some (.int (nI t')), some (.int (nI w')), some (.int (eTr (kyF (wgt n c t')) T)), some (.int (nI i)), l6, l7]) (sk' := [.int 0, .ref 76, .ref 53]) (st' := s1) (fun _ h => h) ?_
            refine w_iald rfl rfl (vp_in_nI (n := 0) (N := 3) (by decide) (by decide)) ?_
            rw [show Int32.toNatClampNeg (0 : Int32) = 0 from rfl]
            rw [hG.1]
            refine w_blk 1 (pc' := 68) (ls' := [some (.ref 53), some (.int (nI q)), some (.int (nI t')), some (.int (nI w')), some (.int (eTr (kyF (wgt n c t')) T)), some (.int (nI i)), l6, l7]) (sk' := [.int (nI t'), .int (nI (k / 4096)), .ref 53]) (st' := s1) (fun _ h => h) ?_
            refine w_callV (As := [.ref 53, .int (nI (k / 4096)), .int (nI t')]) (rest := []) rfl rfl rfl (Nat.le_of_ble_eq_true rfl) (Nat.le_of_ble_eq_true rfl) (by first | exact Or.inl ⟨rfl, rfl⟩ | exact Or.inr ⟨rfl, rfl⟩) (m_dugBy (d + 0) n c t' (k / 4096) s1 hR2 hB (by omega) (by omega)) ?_
            refine w_blk 4 (pc' := 77) (ls' := [some (.ref 53), some (.int (nI q)), some (.int (nI t')), some (.int (nI w')), some (.int (eTr (kyF (wgt n c t')) T)), some (.int (nI i)), l6, l7]) (sk' := [.int 1, .ref 76, .ref 53, .int (nI (wgt n c t' (k / 4096)))]) (st' := s1) (fun _ h => h) ?_
            refine w_iald rfl rfl (vp_in_nI (n := 1) (N := 3) (by decide) (by decide)) ?_
            rw [show Int32.toNatClampNeg (1 : Int32) = 1 from rfl]
            rw [hG.2.1]
            refine w_blk 1 (pc' := 79) (ls' := [some (.ref 53), some (.int (nI q)), some (.int (nI t')), some (.int (nI w')), some (.int (eTr (kyF (wgt n c t')) T)), some (.int (nI i)), l6, l7]) (sk' := [.int (nI t'), .int (nI (k / 64 % 64)), .ref 53, .int (nI (wgt n c t' (k / 4096)))]) (st' := s1) (fun _ h => h) ?_
            refine w_callV (As := [.ref 53, .int (nI (k / 64 % 64)), .int (nI t')]) (rest := [.int (nI (wgt n c t' (k / 4096)))]) rfl rfl rfl (Nat.le_of_ble_eq_true rfl) (Nat.le_of_ble_eq_true rfl) (by first | exact Or.inl ⟨rfl, rfl⟩ | exact Or.inr ⟨rfl, rfl⟩) (m_dugBy (d + 0) n c t' (k / 64 % 64) s1 hR2 hB (by omega) (by omega)) ?_
            refine w_blk 1 (pc' := 83) (ls' := [some (.ref 53), some (.int (nI q)), some (.int (nI t')), some (.int (nI w')), some (.int (eTr (kyF (wgt n c t')) T)), some (.int (nI i)), l6, l7]) (sk' := [.int ((nI (wgt n c t' (k / 4096))) + (nI (wgt n c t' (k / 64 % 64))))]) (st' := s1) (fun _ h => h) ?_
            rw [show ((nI (wgt n c t' (k / 4096))) + (nI (wgt n c t' (k / 64 % 64)))) = nI ((wgt n c t' (k / 4096)) + (wgt n c t' (k / 64 % 64))) from nI_add (wgt n c t' (k / 4096)) (wgt n c t' (k / 64 % 64))]
            refine w_blk 4 (pc' := 89) (ls' := [some (.ref 53), some (.int (nI q)), some (.int (nI t')), some (.int (nI w')), some (.int (eTr (kyF (wgt n c t')) T)), some (.int (nI i)), l6, l7]) (sk' := [.int 2, .ref 76, .ref 53, .int (nI ((wgt n c t' (k / 4096)) + (wgt n c t' (k / 64 % 64))))]) (st' := s1) (fun _ h => h) ?_
            refine w_iald rfl rfl (vp_in_nI (n := 2) (N := 3) (by decide) (by decide)) ?_
            rw [show Int32.toNatClampNeg (2 : Int32) = 2 from rfl]
            rw [hG.2.2]
            refine w_blk 1 (pc' := 91) (ls' := [some (.ref 53), some (.int (nI q)), some (.int (nI t')), some (.int (nI w')), some (.int (eTr (kyF (wgt n c t')) T)), some (.int (nI i)), l6, l7]) (sk' := [.int (nI t'), .int (nI (k % 64)), .ref 53, .int (nI ((wgt n c t' (k / 4096)) + (wgt n c t' (k / 64 % 64))))]) (st' := s1) (fun _ h => h) ?_
            refine w_callV (As := [.ref 53, .int (nI (k % 64)), .int (nI t')]) (rest := [.int (nI ((wgt n c t' (k / 4096)) + (wgt n c t' (k / 64 % 64))))]) rfl rfl rfl (Nat.le_of_ble_eq_true rfl) (Nat.le_of_ble_eq_true rfl) (by first | exact Or.inl ⟨rfl, rfl⟩ | exact Or.inr ⟨rfl, rfl⟩) (m_dugBy (d + 0) n c t' (k % 64) s1 hR2 hB (by omega) (by omega)) ?_
            refine w_blk 1 (pc' := 95) (ls' := [some (.ref 53), some (.int (nI q)), some (.int (nI t')), some (.int (nI w')), some (.int (eTr (kyF (wgt n c t')) T)), some (.int (nI i)), l6, l7]) (sk' := [.int ((nI ((wgt n c t' (k / 4096)) + (wgt n c t' (k / 64 % 64)))) + (nI (wgt n c t' (k % 64))))]) (st' := s1) (fun _ h => h) ?_
            rw [show ((nI ((wgt n c t' (k / 4096)) + (wgt n c t' (k / 64 % 64)))) + (nI (wgt n c t' (k % 64)))) = nI (((wgt n c t' (k / 4096)) + (wgt n c t' (k / 64 % 64))) + (wgt n c t' (k % 64))) from nI_add ((wgt n c t' (k / 4096)) + (wgt n c t' (k / 64 % 64))) (wgt n c t' (k % 64))]
            refine w_blk 1 (pc' := 97) (ls' := [some (.ref 53), some (.int (nI q)), some (.int (nI t')), some (.int (nI w')), some (.int (eTr (kyF (wgt n c t')) T)), some (.int (nI i)), some (.int (nI (((wgt n c t' (k / 4096)) + (wgt n c t' (k / 64 % 64))) + (wgt n c t' (k % 64))))), l7]) (sk' := []) (st' := s1) (fun _ h => h) ?_
            rcases T with _ | b
            · show mW (mMC mT (d + 1)) (0, fun _ => 0) (mAtL P_X10_rings) (some .int) Q 97 [some (.ref 53), some (.int (nI q)), some (.int (nI t')), some (.int (nI w')), some (.int (-1)), some (.int (nI i)), some (.int (nI (((wgt n c t' (k / 4096)) + (wgt n c t' (k / 64 % 64))) + (wgt n c t' (k % 64))))), l7] [] s1
              refine w_blk 2 (pc' := 101) (ls' := [some (.ref 53), some (.int (nI q)), some (.int (nI t')), some (.int (nI w')), some (.int (-1)), some (.int (nI i)), some (.int (nI (((wgt n c t' (k / 4096)) + (wgt n c t' (k / 64 % 64))) + (wgt n c t' (k % 64))))), l7]) (sk' := [.int (-1), .int (nI (((wgt n c t' (k / 4096)) + (wgt n c t' (k / 64 % 64))) + (wgt n c t' (k % 64))))]) (st' := s1) (fun _ h => h) ?_
              refine w_cmp_gt rfl (fun _ => ?_) (fun hno => absurd (by rw [Int32.lt_iff_toInt_lt, nI_toInt (by omega), show (-1 : Int32).toInt = -1 from rfl]; omega) hno)
              refine w_blk 6 (pc' := 128) (ls' := [some (.ref 53), some (.int (nI q)), some (.int (nI t')), some (.int (nI w')), some (.int (nI (((wgt n c t' (k / 4096)) + (wgt n c t' (k / 64 % 64))) + (wgt n c t' (k % 64))))), some (.int (nI i)), some (.int (nI (((wgt n c t' (k / 4096)) + (wgt n c t' (k / 64 % 64))) + (wgt n c t' (k % 64))))), some (.int 0)]) (sk' := [.int 3, .int 0]) (st' := s1) (fun _ h => h) ?_
              refine w_cmp_ge rfl (fun hno => absurd hno (by decide)) (fun _ => ?_)
              refine w_blk 6 (pc' := 143) (ls' := [some (.ref 53), some (.int (nI q)), some (.int (nI t')), some (.int (nI w')), some (.int (nI (((wgt n c t' (k / 4096)) + (wgt n c t' (k / 64 % 64))) + (wgt n c t' (k % 64))))), some (.int (nI i)), some (.int (nI (((wgt n c t' (k / 4096)) + (wgt n c t' (k / 64 % 64))) + (wgt n c t' (k % 64))))), some (.int 0)]) (sk' := [.int 0, .ref 76, .int 0, .ref 77]) (st' := s1) (fun _ h => h) ?_
              refine w_iald rfl rfl (vp_in_nI (n := 0) (N := 3) (by decide) (by decide)) ?_
              rw [show Int32.toNatClampNeg (0 : Int32) = 0 from rfl]
              rw [hG.1]
              refine w_iast rfl rfl (vp_in_nI (n := 0) (N := 3) (by decide) (by decide)) ?_
              rw [show Int32.toNatClampNeg (0 : Int32) = 0 from rfl]
              refine w_blk 1 (pc' := 148) (ls' := [some (.ref 53), some (.int (nI q)), some (.int (nI t')), some (.int (nI w')), some (.int (nI (((wgt n c t' (k / 4096)) + (wgt n c t' (k / 64 % 64))) + (wgt n c t' (k % 64))))), some (.int (nI i)), some (.int (nI (((wgt n c t' (k / 4096)) + (wgt n c t' (k / 64 % 64))) + (wgt n c t' (k % 64))))), some (.int (0 + 1))]) (sk' := []) (st' := ((mU s1.1 77 0 (nI (k / 4096))), s1.2)) (fun _ h => h) ?_
              rw [show (0 + 1 : Int32) = 1 from rfl]
              refine w_blk 3 (pc' := 128) (ls' := [some (.ref 53), some (.int (nI q)), some (.int (nI t')), some (.int (nI w')), some (.int (nI (((wgt n c t' (k / 4096)) + (wgt n c t' (k / 64 % 64))) + (wgt n c t' (k % 64))))), some (.int (nI i)), some (.int (nI (((wgt n c t' (k / 4096)) + (wgt n c t' (k / 64 % 64))) + (wgt n c t' (k % 64))))), some (.int 1)]) (sk' := [.int 3, .int 1]) (st' := ((mU s1.1 77 0 (nI (k / 4096))), s1.2)) (fun _ h => h) ?_
              refine w_cmp_ge rfl (fun hno => absurd hno (by decide)) (fun _ => ?_)
              refine w_blk 6 (pc' := 143) (ls' := [some (.ref 53), some (.int (nI q)), some (.int (nI t')), some (.int (nI w')), some (.int (nI (((wgt n c t' (k / 4096)) + (wgt n c t' (k / 64 % 64))) + (wgt n c t' (k % 64))))), some (.int (nI i)), some (.int (nI (((wgt n c t' (k / 4096)) + (wgt n c t' (k / 64 % 64))) + (wgt n c t' (k % 64))))), some (.int 1)]) (sk' := [.int 1, .ref 76, .int 1, .ref 77]) (st' := ((mU s1.1 77 0 (nI (k / 4096))), s1.2)) (fun _ h => h) ?_
              refine w_iald rfl rfl (vp_in_nI (n := 1) (N := 3) (by decide) (by decide)) ?_
              rw [show Int32.toNatClampNeg (1 : Int32) = 1 from rfl]
              show mW (mMC mT (d + 1)) (0, fun _ => 0) (mAtL P_X10_rings) (some .int) Q 144 [some (.ref 53), some (.int (nI q)), some (.int (nI t')), some (.int (nI w')), some (.int (nI (((wgt n c t' (k / 4096)) + (wgt n c t' (k / 64 % 64))) + (wgt n c t' (k % 64))))), some (.int (nI i)), some (.int (nI (((wgt n c t' (k / 4096)) + (wgt n c t' (k / 64 % 64))) + (wgt n c t' (k % 64))))), some (.int 1)] [.int (s1.1 76 1), .int 1, .ref 77] ((mU s1.1 77 0 (nI (k / 4096))), s1.2)
              rw [hG.2.1]
              refine w_iast rfl rfl (vp_in_nI (n := 1) (N := 3) (by decide) (by decide)) ?_
              rw [show Int32.toNatClampNeg (1 : Int32) = 1 from rfl]
              refine w_blk 1 (pc' := 148) (ls' := [some (.ref 53), some (.int (nI q)), some (.int (nI t')), some (.int (nI w')), some (.int (nI (((wgt n c t' (k / 4096)) + (wgt n c t' (k / 64 % 64))) + (wgt n c t' (k % 64))))), some (.int (nI i)), some (.int (nI (((wgt n c t' (k / 4096)) + (wgt n c t' (k / 64 % 64))) + (wgt n c t' (k % 64))))), some (.int (1 + 1))]) (sk' := []) (st' := ((mU (mU s1.1 77 0 (nI (k / 4096))) 77 1 (nI (k / 64 % 64))), s1.2)) (fun _ h => h) ?_
              rw [show (1 + 1 : Int32) = 2 from rfl]
              refine w_blk 3 (pc' := 128) (ls' := [some (.ref 53), some (.int (nI q)), some (.int (nI t')), some (.int (nI w')), some (.int (nI (((wgt n c t' (k / 4096)) + (wgt n c t' (k / 64 % 64))) + (wgt n c t' (k % 64))))), some (.int (nI i)), some (.int (nI (((wgt n c t' (k / 4096)) + (wgt n c t' (k / 64 % 64))) + (wgt n c t' (k % 64))))), some (.int 2)]) (sk' := [.int 3, .int 2]) (st' := ((mU (mU s1.1 77 0 (nI (k / 4096))) 77 1 (nI (k / 64 % 64))), s1.2)) (fun _ h => h) ?_
              refine w_cmp_ge rfl (fun hno => absurd hno (by decide)) (fun _ => ?_)
              refine w_blk 6 (pc' := 143) (ls' := [some (.ref 53), some (.int (nI q)), some (.int (nI t')), some (.int (nI w')), some (.int (nI (((wgt n c t' (k / 4096)) + (wgt n c t' (k / 64 % 64))) + (wgt n c t' (k % 64))))), some (.int (nI i)), some (.int (nI (((wgt n c t' (k / 4096)) + (wgt n c t' (k / 64 % 64))) + (wgt n c t' (k % 64))))), some (.int 2)]) (sk' := [.int 2, .ref 76, .int 2, .ref 77]) (st' := ((mU (mU s1.1 77 0 (nI (k / 4096))) 77 1 (nI (k / 64 % 64))), s1.2)) (fun _ h => h) ?_
              refine w_iald rfl rfl (vp_in_nI (n := 2) (N := 3) (by decide) (by decide)) ?_
              rw [show Int32.toNatClampNeg (2 : Int32) = 2 from rfl]
              show mW (mMC mT (d + 1)) (0, fun _ => 0) (mAtL P_X10_rings) (some .int) Q 144 [some (.ref 53), some (.int (nI q)), some (.int (nI t')), some (.int (nI w')), some (.int (nI (((wgt n c t' (k / 4096)) + (wgt n c t' (k / 64 % 64))) + (wgt n c t' (k % 64))))), some (.int (nI i)), some (.int (nI (((wgt n c t' (k / 4096)) + (wgt n c t' (k / 64 % 64))) + (wgt n c t' (k % 64))))), some (.int 2)] [.int (s1.1 76 2), .int 2, .ref 77] ((mU (mU s1.1 77 0 (nI (k / 4096))) 77 1 (nI (k / 64 % 64))), s1.2)
              rw [hG.2.2]
              refine w_iast rfl rfl (vp_in_nI (n := 2) (N := 3) (by decide) (by decide)) ?_
              rw [show Int32.toNatClampNeg (2 : Int32) = 2 from rfl]
              refine w_blk 1 (pc' := 148) (ls' := [some (.ref 53), some (.int (nI q)), some (.int (nI t')), some (.int (nI w')), some (.int (nI (((wgt n c t' (k / 4096)) + (wgt n c t' (k / 64 % 64))) + (wgt n c t' (k % 64))))), some (.int (nI i)), some (.int (nI (((wgt n c t' (k / 4096)) + (wgt n c t' (k / 64 % 64))) + (wgt n c t' (k % 64))))), some (.int (2 + 1))]) (sk' := []) (st' := ((mU (mU (mU s1.1 77 0 (nI (k / 4096))) 77 1 (nI (k / 64 % 64))) 77 2 (nI (k % 64))), s1.2)) (fun _ h => h) ?_
              rw [show (2 + 1 : Int32) = 3 from rfl]
              refine w_blk 3 (pc' := 128) (ls' := [some (.ref 53), some (.int (nI q)), some (.int (nI t')), some (.int (nI w')), some (.int (nI (((wgt n c t' (k / 4096)) + (wgt n c t' (k / 64 % 64))) + (wgt n c t' (k % 64))))), some (.int (nI i)), some (.int (nI (((wgt n c t' (k / 4096)) + (wgt n c t' (k / 64 % 64))) + (wgt n c t' (k % 64))))), some (.int 3)]) (sk' := [.int 3, .int 3]) (st' := ((mU (mU (mU s1.1 77 0 (nI (k / 4096))) 77 1 (nI (k / 64 % 64))) 77 2 (nI (k % 64))), s1.2)) (fun _ h => h) ?_
              refine w_cmp_ge rfl (fun _ => ?_) (fun hno => absurd (by decide) hno)
              refine w_blk 1 (pc' := 154) (ls' := [some (.ref 53), some (.int (nI q)), some (.int (nI t')), some (.int (nI w')), some (.int (nI (((wgt n c t' (k / 4096)) + (wgt n c t' (k / 64 % 64))) + (wgt n c t' (k % 64))))), some (.int ((nI i) + 1)), some (.int (nI (((wgt n c t' (k / 4096)) + (wgt n c t' (k / 64 % 64))) + (wgt n c t' (k % 64))))), some (.int 3)]) (sk' := []) (st' := ((mU (mU (mU s1.1 77 0 (nI (k / 4096))) 77 1 (nI (k / 64 % 64))) 77 2 (nI (k % 64))), s1.2)) (fun _ h => h) ?_
              rw [show ((nI i) + 1) = nI (i + 1) from nI_add i 1]
              refine w_blk 1 (pc' := 42) (ls' := [some (.ref 53), some (.int (nI q)), some (.int (nI t')), some (.int (nI w')), some (.int (nI (((wgt n c t' (k / 4096)) + (wgt n c t' (k / 64 % 64))) + (wgt n c t' (k % 64))))), some (.int (nI (i + 1))), some (.int (nI (((wgt n c t' (k / 4096)) + (wgt n c t' (k / 64 % 64))) + (wgt n c t' (k % 64))))), some (.int 3)]) (sk' := []) (st' := ((mU (mU (mU s1.1 77 0 (nI (k / 4096))) 77 1 (nI (k / 64 % 64))) 77 2 (nI (k % 64))), s1.2)) (fun _ h => h) ?_
              exact (by have hh := ih (i + 1) (some k) ((mU (mU (mU s1.1 77 0 (nI (k / 4096))) 77 1 (nI (k / 64 % 64))) 77 2 (nI (k % 64))), s1.2) (some (.int (nI (((wgt n c t' (k / 4096)) + (wgt n c t' (k / 64 % 64))) + (wgt n c t' (k % 64)))))) (some (.int 3)) (by omega) (Fr.trans (Fr.trans (Fr.trans hf2 (Fr.mU (by decide))) (Fr.mU (by decide))) (Fr.mU (by decide))) ⟨rfl, rfl, rfl⟩ (by rw [mL_some hk]; have h8 := SP_stM hSP k; rw [show stM _ k none = some k from rfl] at h8; exact h8); exact hh)
            · have hFb1 := hFb b
              have hb18 : b < 262144 := by
                obtain ⟨j, hj⟩ := mL_sub i hSP.1
                rcases hpm : pm q j (n 0) with _ | ⟨r, tt, ra, rb, rc⟩
                · rw [pK_none hpm] at hj
                  exact nomatch hj
                · have hbd2 := pm_bd (n 0) hb0 hpm
                  rw [pK_some hpm] at hj
                  have := Option.some.inj hj
                  omega
              show mW (mMC mT (d + 1)) (0, fun _ => 0) (mAtL P_X10_rings) (some .int) Q 97 [some (.ref 53), some (.int (nI q)), some (.int (nI t')), some (.int (nI w')), some (.int (nI (kyF (wgt n c t') b))), some (.int (nI i)), some (.int (nI (((wgt n c t' (k / 4096)) + (wgt n c t' (k / 64 % 64))) + (wgt n c t' (k % 64))))), l7] [] s1
              refine w_blk 2 (pc' := 101) (ls' := [some (.ref 53), some (.int (nI q)), some (.int (nI t')), some (.int (nI w')), some (.int (nI (kyF (wgt n c t') b))), some (.int (nI i)), some (.int (nI (((wgt n c t' (k / 4096)) + (wgt n c t' (k / 64 % 64))) + (wgt n c t' (k % 64))))), l7]) (sk' := [.int (nI (kyF (wgt n c t') b)), .int (nI (((wgt n c t' (k / 4096)) + (wgt n c t' (k / 64 % 64))) + (wgt n c t' (k % 64))))]) (st' := s1) (fun _ h => h) ?_
              refine w_cmp_gt rfl (fun h5 => ?_) (fun h5 => ?_)
              · replace h5 : kyF (wgt n c t') b < ((wgt n c t' (k / 4096)) + (wgt n c t' (k / 64 % 64))) + (wgt n c t' (k % 64)) := (nI_ltI (a := (kyF (wgt n c t') b)) (b := (((wgt n c t' (k / 4096)) + (wgt n c t' (k / 64 % 64))) + (wgt n c t' (k % 64)))) (by omega) (by omega)).mp h5
                refine w_blk 6 (pc' := 128) (ls' := [some (.ref 53), some (.int (nI q)), some (.int (nI t')), some (.int (nI w')), some (.int (nI (((wgt n c t' (k / 4096)) + (wgt n c t' (k / 64 % 64))) + (wgt n c t' (k % 64))))), some (.int (nI i)), some (.int (nI (((wgt n c t' (k / 4096)) + (wgt n c t' (k / 64 % 64))) + (wgt n c t' (k % 64))))), some (.int 0)]) (sk' := [.int 3, .int 0]) (st' := s1) (fun _ h => h) ?_
                refine w_cmp_ge rfl (fun hno => absurd hno (by decide)) (fun _ => ?_)
                refine w_blk 6 (pc' := 143) (ls' := [some (.ref 53), some (.int (nI q)), some (.int (nI t')), some (.int (nI w')), some (.int (nI (((wgt n c t' (k / 4096)) + (wgt n c t' (k / 64 % 64))) + (wgt n c t' (k % 64))))), some (.int (nI i)), some (.int (nI (((wgt n c t' (k / 4096)) + (wgt n c t' (k / 64 % 64))) + (wgt n c t' (k % 64))))), some (.int 0)]) (sk' := [.int 0, .ref 76, .int 0, .ref 77]) (st' := s1) (fun _ h => h) ?_
                refine w_iald rfl rfl (vp_in_nI (n := 0) (N := 3) (by decide) (by decide)) ?_
                rw [show Int32.toNatClampNeg (0 : Int32) = 0 from rfl]
                rw [hG.1]
                refine w_iast rfl rfl (vp_in_nI (n := 0) (N := 3) (by decide) (by decide)) ?_
                rw [show Int32.toNatClampNeg (0 : Int32) = 0 from rfl]
                refine w_blk 1 (pc' := 148) (ls' := [some (.ref 53), some (.int (nI q)), some (.int (nI t')), some (.int (nI w')), some (.int (nI (((wgt n c t' (k / 4096)) + (wgt n c t' (k / 64 % 64))) + (wgt n c t' (k % 64))))), some (.int (nI i)), some (.int (nI (((wgt n c t' (k / 4096)) + (wgt n c t' (k / 64 % 64))) + (wgt n c t' (k % 64))))), some (.int (0 + 1))]) (sk' := []) (st' := ((mU s1.1 77 0 (nI (k / 4096))), s1.2)) (fun _ h => h) ?_
                rw [show (0 + 1 : Int32) = 1 from rfl]
                refine w_blk 3 (pc' := 128) (ls' := [some (.ref 53), some (.int (nI q)), some (.int (nI t')), some (.int (nI w')), some (.int (nI (((wgt n c t' (k / 4096)) + (wgt n c t' (k / 64 % 64))) + (wgt n c t' (k % 64))))), some (.int (nI i)), some (.int (nI (((wgt n c t' (k / 4096)) + (wgt n c t' (k / 64 % 64))) + (wgt n c t' (k % 64))))), some (.int 1)]) (sk' := [.int 3, .int 1]) (st' := ((mU s1.1 77 0 (nI (k / 4096))), s1.2)) (fun _ h => h) ?_
                refine w_cmp_ge rfl (fun hno => absurd hno (by decide)) (fun _ => ?_)
                refine w_blk 6 (pc' := 143) (ls' := [some (.ref 53), some (.int (nI q)), some (.int (nI t')), some (.int (nI w')), some (.int (nI (((wgt n c t' (k / 4096)) + (wgt n c t' (k / 64 % 64))) + (wgt n c t' (k % 64))))), some (.int (nI i)), some (.int (nI (((wgt n c t' (k / 4096)) + (wgt n c t' (k / 64 % 64))) + (wgt n c t' (k % 64))))), some (.int 1)]) (sk' := [.int 1, .ref 76, .int 1, .ref 77]) (st' := ((mU s1.1 77 0 (nI (k / 4096))), s1.2)) (fun _ h => h) ?_
                refine w_iald rfl rfl (vp_in_nI (n := 1) (N := 3) (by decide) (by decide)) ?_
                rw [show Int32.toNatClampNeg (1 : Int32) = 1 from rfl]
                show mW (mMC mT (d + 1)) (0, fun _ => 0) (mAtL P_X10_rings) (some .int) Q 144 [some (.ref 53), some (.int (nI q)), some (.int (nI t')), some (.int (nI w')), some (.int (nI (((wgt n c t' (k / 4096)) + (wgt n c t' (k / 64 % 64))) + (wgt n c t' (k % 64))))), some (.int (nI i)), some (.int (nI (((wgt n c t' (k / 4096)) + (wgt n c t' (k / 64 % 64))) + (wgt n c t' (k % 64))))), some (.int 1)] [.int (s1.1 76 1), .int 1, .ref 77] ((mU s1.1 77 0 (nI (k / 4096))), s1.2)
                rw [hG.2.1]
                refine w_iast rfl rfl (vp_in_nI (n := 1) (N := 3) (by decide) (by decide)) ?_
                rw [show Int32.toNatClampNeg (1 : Int32) = 1 from rfl]
                refine w_blk 1 (pc' := 148) (ls' := [some (.ref 53), some (.int (nI q)), some (.int (nI t')), some (.int (nI w')), some (.int (nI (((wgt n c t' (k / 4096)) + (wgt n c t' (k / 64 % 64))) + (wgt n c t' (k % 64))))), some (.int (nI i)), some (.int (nI (((wgt n c t' (k / 4096)) + (wgt n c t' (k / 64 % 64))) + (wgt n c t' (k % 64))))), some (.int (1 + 1))]) (sk' := []) (st' := ((mU (mU s1.1 77 0 (nI (k / 4096))) 77 1 (nI (k / 64 % 64))), s1.2)) (fun _ h => h) ?_
                rw [show (1 + 1 : Int32) = 2 from rfl]
                refine w_blk 3 (pc' := 128) (ls' := [some (.ref 53), some (.int (nI q)), some (.int (nI t')), some (.int (nI w')), some (.int (nI (((wgt n c t' (k / 4096)) + (wgt n c t' (k / 64 % 64))) + (wgt n c t' (k % 64))))), some (.int (nI i)), some (.int (nI (((wgt n c t' (k / 4096)) + (wgt n c t' (k / 64 % 64))) + (wgt n c t' (k % 64))))), some (.int 2)]) (sk' := [.int 3, .int 2]) (st' := ((mU (mU s1.1 77 0 (nI (k / 4096))) 77 1 (nI (k / 64 % 64))), s1.2)) (fun _ h => h) ?_
                refine w_cmp_ge rfl (fun hno => absurd hno (by decide)) (fun _ => ?_)
                refine w_blk 6 (pc' := 143) (ls' := [some (.ref 53), some (.int (nI q)), some (.int (nI t')), some (.int (nI w')), some (.int (nI (((wgt n c t' (k / 4096)) + (wgt n c t' (k / 64 % 64))) + (wgt n c t' (k % 64))))), some (.int (nI i)), some (.int (nI (((wgt n c t' (k / 4096)) + (wgt n c t' (k / 64 % 64))) + (wgt n c t' (k % 64))))), some (.int 2)]) (sk' := [.int 2, .ref 76, .int 2, .ref 77]) (st' := ((mU (mU s1.1 77 0 (nI (k / 4096))) 77 1 (nI (k / 64 % 64))), s1.2)) (fun _ h => h) ?_
                refine w_iald rfl rfl (vp_in_nI (n := 2) (N := 3) (by decide) (by decide)) ?_
                rw [show Int32.toNatClampNeg (2 : Int32) = 2 from rfl]
                show mW (mMC mT (d + 1)) (0, fun _ => 0) (mAtL P_X10_rings) (some .int) Q 144 [some (.ref 53), some (.int (nI q)), some (.int (nI t')), some (.int (nI w')), some (.int (nI (((wgt n c t' (k / 4096)) + (wgt n c t' (k / 64 % 64))) + (wgt n c t' (k % 64))))), some (.int (nI i)), some (.int (nI (((wgt n c t' (k / 4096)) + (wgt n c t' (k / 64 % 64))) + (wgt n c t' (k % 64))))), some (.int 2)] [.int (s1.1 76 2), .int 2, .ref 77] ((mU (mU s1.1 77 0 (nI (k / 4096))) 77 1 (nI (k / 64 % 64))), s1.2)
                rw [hG.2.2]
                refine w_iast rfl rfl (vp_in_nI (n := 2) (N := 3) (by decide) (by decide)) ?_
                rw [show Int32.toNatClampNeg (2 : Int32) = 2 from rfl]
                refine w_blk 1 (pc' := 148) (ls' := [some (.ref 53), some (.int (nI q)), some (.int (nI t')), some (.int (nI w')), some (.int (nI (((wgt n c t' (k / 4096)) + (wgt n c t' (k / 64 % 64))) + (wgt n c t' (k % 64))))), some (.int (nI i)), some (.int (nI (((wgt n c t' (k / 4096)) + (wgt n c t' (k / 64 % 64))) + (wgt n c t' (k % 64))))), some (.int (2 + 1))]) (sk' := []) (st' := ((mU (mU (mU s1.1 77 0 (nI (k / 4096))) 77 1 (nI (k / 64 % 64))) 77 2 (nI (k % 64))), s1.2)) (fun _ h => h) ?_
                rw [show (2 + 1 : Int32) = 3 from rfl]
                refine w_blk 3 (pc' := 128) (ls' := [some (.ref 53), some (.int (nI q)), some (.int (nI t')), some (.int (nI w')), some (.int (nI (((wgt n c t' (k / 4096)) + (wgt n c t' (k / 64 % 64))) + (wgt n c t' (k % 64))))), some (.int (nI i)), some (.int (nI (((wgt n c t' (k / 4096)) + (wgt n c t' (k / 64 % 64))) + (wgt n c t' (k % 64))))), some (.int 3)]) (sk' := [.int 3, .int 3]) (st' := ((mU (mU (mU s1.1 77 0 (nI (k / 4096))) 77 1 (nI (k / 64 % 64))) 77 2 (nI (k % 64))), s1.2)) (fun _ h => h) ?_
                refine w_cmp_ge rfl (fun _ => ?_) (fun hno => absurd (by decide) hno)
                refine w_blk 1 (pc' := 154) (ls' := [some (.ref 53), some (.int (nI q)), some (.int (nI t')), some (.int (nI w')), some (.int (nI (((wgt n c t' (k / 4096)) + (wgt n c t' (k / 64 % 64))) + (wgt n c t' (k % 64))))), some (.int ((nI i) + 1)), some (.int (nI (((wgt n c t' (k / 4096)) + (wgt n c t' (k / 64 % 64))) + (wgt n c t' (k % 64))))), some (.int 3)]) (sk' := []) (st' := ((mU (mU (mU s1.1 77 0 (nI (k / 4096))) 77 1 (nI (k / 64 % 64))) 77 2 (nI (k % 64))), s1.2)) (fun _ h => h) ?_
                rw [show ((nI i) + 1) = nI (i + 1) from nI_add i 1]
                refine w_blk 1 (pc' := 42) (ls' := [some (.ref 53), some (.int (nI q)), some (.int (nI t')), some (.int (nI w')), some (.int (nI (((wgt n c t' (k / 4096)) + (wgt n c t' (k / 64 % 64))) + (wgt n c t' (k % 64))))), some (.int (nI (i + 1))), some (.int (nI (((wgt n c t' (k / 4096)) + (wgt n c t' (k / 64 % 64))) + (wgt n c t' (k % 64))))), some (.int 3)]) (sk' := []) (st' := ((mU (mU (mU s1.1 77 0 (nI (k / 4096))) 77 1 (nI (k / 64 % 64))) 77 2 (nI (k % 64))), s1.2)) (fun _ h => h) ?_
                exact (by have hh := ih (i + 1) (some k) ((mU (mU (mU s1.1 77 0 (nI (k / 4096))) 77 1 (nI (k / 64 % 64))) 77 2 (nI (k % 64))), s1.2) (some (.int (nI (((wgt n c t' (k / 4096)) + (wgt n c t' (k / 64 % 64))) + (wgt n c t' (k % 64)))))) (some (.int 3)) (by omega) (Fr.trans (Fr.trans (Fr.trans hf2 (Fr.mU (by decide))) (Fr.mU (by decide))) (Fr.mU (by decide))) ⟨rfl, rfl, rfl⟩ (by rw [mL_some hk]; have h8 := SP_stM hSP k; rw [show stM _ k (some b) = some k from if_pos (Or.inl (by omega))] at h8; exact h8); exact hh)
              · replace h5 : ¬ (kyF (wgt n c t') b < ((wgt n c t' (k / 4096)) + (wgt n c t' (k / 64 % 64))) + (wgt n c t' (k % 64))) := fun hh => h5 ((nI_ltI (a := (kyF (wgt n c t') b)) (b := (((wgt n c t' (k / 4096)) + (wgt n c t' (k / 64 % 64))) + (wgt n c t' (k % 64)))) (by omega) (by omega)).mpr hh)
                refine w_blk 2 (pc' := 108) (ls' := [some (.ref 53), some (.int (nI q)), some (.int (nI t')), some (.int (nI w')), some (.int (nI (kyF (wgt n c t') b))), some (.int (nI i)), some (.int (nI (((wgt n c t' (k / 4096)) + (wgt n c t' (k / 64 % 64))) + (wgt n c t' (k % 64))))), l7]) (sk' := [.int (nI (kyF (wgt n c t') b)), .int (nI (((wgt n c t' (k / 4096)) + (wgt n c t' (k / 64 % 64))) + (wgt n c t' (k % 64))))]) (st' := s1) (fun _ h => h) ?_
                refine w_cmp_ne rfl (fun h6 => ?_) (fun h6 => ?_)
                · replace h6 : ¬ (((wgt n c t' (k / 4096)) + (wgt n c t' (k / 64 % 64))) + (wgt n c t' (k % 64)) = kyF (wgt n c t') b) := fun hh => h6 ((nI_eq (a := (((wgt n c t' (k / 4096)) + (wgt n c t' (k / 64 % 64))) + (wgt n c t' (k % 64)))) (b := (kyF (wgt n c t') b)) (by omega) (by omega)).mpr hh)
                  refine w_blk 1 (pc' := 154) (ls' := [some (.ref 53), some (.int (nI q)), some (.int (nI t')), some (.int (nI w')), some (.int (nI (kyF (wgt n c t') b))), some (.int ((nI i) + 1)), some (.int (nI (((wgt n c t' (k / 4096)) + (wgt n c t' (k / 64 % 64))) + (wgt n c t' (k % 64))))), l7]) (sk' := []) (st' := s1) (fun _ h => h) ?_
                  rw [show ((nI i) + 1) = nI (i + 1) from nI_add i 1]
                  refine w_blk 1 (pc' := 42) (ls' := [some (.ref 53), some (.int (nI q)), some (.int (nI t')), some (.int (nI w')), some (.int (nI (kyF (wgt n c t') b))), some (.int (nI (i + 1))), some (.int (nI (((wgt n c t' (k / 4096)) + (wgt n c t' (k / 64 % 64))) + (wgt n c t' (k % 64))))), l7]) (sk' := []) (st' := s1) (fun _ h => h) ?_
                  exact (by have hh := ih (i + 1) (some b) s1 (some (.int (nI (((wgt n c t' (k / 4096)) + (wgt n c t' (k / 64 % 64))) + (wgt n c t' (k % 64)))))) l7 (by omega) hf2 hM2 (by rw [mL_some hk]; have h8 := SP_stM hSP k; rw [show stM _ k (some b) = some b from if_neg (by omega)] at h8; exact h8); exact hh)
                · replace h6 : ((wgt n c t' (k / 4096)) + (wgt n c t' (k / 64 % 64))) + (wgt n c t' (k % 64)) = kyF (wgt n c t') b := (nI_eq (a := (((wgt n c t' (k / 4096)) + (wgt n c t' (k / 64 % 64))) + (wgt n c t' (k % 64)))) (b := (kyF (wgt n c t') b)) (by omega) (by omega)).mp (Decidable.not_not.mp h6)
                  refine w_blk 1 (pc' := 112) (ls' := [some (.ref 53), some (.int (nI q)), some (.int (nI t')), some (.int (nI w')), some (.int (nI (kyF (wgt n c t') b))), some (.int (nI i)), some (.int (nI (((wgt n c t' (k / 4096)) + (wgt n c t' (k / 64 % 64))) + (wgt n c t' (k % 64))))), l7]) (sk' := [.ref 53]) (st' := s1) (fun _ h => h) ?_
                  refine w_callV (As := [.ref 53]) (rest := []) rfl rfl rfl (Nat.le_of_ble_eq_true rfl) (Nat.le_of_ble_eq_true rfl) (by first | exact Or.inl ⟨rfl, rfl⟩ | exact Or.inr ⟨rfl, rfl⟩) (m_isAhead (d + 0) (k / 4096) (k / 64 % 64) (k % 64) (b / 4096) (b / 64 % 64) (b % 64) s1 hG hM2 (by omega) (by omega) (by omega) (by omega) (by omega) (by omega)) ?_
                  refine w_if_eq rfl (fun h7 => ?_) (fun h7 => ?_)
                  · replace h7 := pI_eq0.mp h7
                    refine w_blk 1 (pc' := 154) (ls' := [some (.ref 53), some (.int (nI q)), some (.int (nI t')), some (.int (nI w')), some (.int (nI (kyF (wgt n c t') b))), some (.int ((nI i) + 1)), some (.int (nI (((wgt n c t' (k / 4096)) + (wgt n c t' (k / 64 % 64))) + (wgt n c t' (k % 64))))), l7]) (sk' := []) (st' := s1) (fun _ h => h) ?_
                    rw [show ((nI i) + 1) = nI (i + 1) from nI_add i 1]
                    refine w_blk 1 (pc' := 42) (ls' := [some (.ref 53), some (.int (nI q)), some (.int (nI t')), some (.int (nI w')), some (.int (nI (kyF (wgt n c t') b))), some (.int (nI (i + 1))), some (.int (nI (((wgt n c t' (k / 4096)) + (wgt n c t' (k / 64 % 64))) + (wgt n c t' (k % 64))))), l7]) (sk' := []) (st' := s1) (fun _ h => h) ?_
                    exact (by have hh := ih (i + 1) (some b) s1 (some (.int (nI (((wgt n c t' (k / 4096)) + (wgt n c t' (k / 64 % 64))) + (wgt n c t' (k % 64)))))) l7 (by omega) hf2 hM2 (by rw [mL_some hk]; have h8 := SP_stM hSP k; rw [show stM _ k (some b) = some b from if_neg (by omega)] at h8; exact h8); exact hh)
                  · replace h7 := pI_ne.mp h7
                    refine w_blk 6 (pc' := 128) (ls' := [some (.ref 53), some (.int (nI q)), some (.int (nI t')), some (.int (nI w')), some (.int (nI (((wgt n c t' (k / 4096)) + (wgt n c t' (k / 64 % 64))) + (wgt n c t' (k % 64))))), some (.int (nI i)), some (.int (nI (((wgt n c t' (k / 4096)) + (wgt n c t' (k / 64 % 64))) + (wgt n c t' (k % 64))))), some (.int 0)]) (sk' := [.int 3, .int 0]) (st' := s1) (fun _ h => h) ?_
                    refine w_cmp_ge rfl (fun hno => absurd hno (by decide)) (fun _ => ?_)
                    refine w_blk 6 (pc' := 143) (ls' := [some (.ref 53), some (.int (nI q)), some (.int (nI t')), some (.int (nI w')), some (.int (nI (((wgt n c t' (k / 4096)) + (wgt n c t' (k / 64 % 64))) + (wgt n c t' (k % 64))))), some (.int (nI i)), some (.int (nI (((wgt n c t' (k / 4096)) + (wgt n c t' (k / 64 % 64))) + (wgt n c t' (k % 64))))), some (.int 0)]) (sk' := [.int 0, .ref 76, .int 0, .ref 77]) (st' := s1) (fun _ h => h) ?_
                    refine w_iald rfl rfl (vp_in_nI (n := 0) (N := 3) (by decide) (by decide)) ?_
                    rw [show Int32.toNatClampNeg (0 : Int32) = 0 from rfl]
                    rw [hG.1]
                    refine w_iast rfl rfl (vp_in_nI (n := 0) (N := 3) (by decide) (by decide)) ?_
                    rw [show Int32.toNatClampNeg (0 : Int32) = 0 from rfl]
                    refine w_blk 1 (pc' := 148) (ls' := [some (.ref 53), some (.int (nI q)), some (.int (nI t')), some (.int (nI w')), some (.int (nI (((wgt n c t' (k / 4096)) + (wgt n c t' (k / 64 % 64))) + (wgt n c t' (k % 64))))), some (.int (nI i)), some (.int (nI (((wgt n c t' (k / 4096)) + (wgt n c t' (k / 64 % 64))) + (wgt n c t' (k % 64))))), some (.int (0 + 1))]) (sk' := []) (st' := ((mU s1.1 77 0 (nI (k / 4096))), s1.2)) (fun _ h => h) ?_
                    rw [show (0 + 1 : Int32) = 1 from rfl]
                    refine w_blk 3 (pc' := 128) (ls' := [some (.ref 53), some (.int (nI q)), some (.int (nI t')), some (.int (nI w')), some (.int (nI (((wgt n c t' (k / 4096)) + (wgt n c t' (k / 64 % 64))) + (wgt n c t' (k % 64))))), some (.int (nI i)), some (.int (nI (((wgt n c t' (k / 4096)) + (wgt n c t' (k / 64 % 64))) + (wgt n c t' (k % 64))))), some (.int 1)]) (sk' := [.int 3, .int 1]) (st' := ((mU s1.1 77 0 (nI (k / 4096))), s1.2)) (fun _ h => h) ?_
                    refine w_cmp_ge rfl (fun hno => absurd hno (by decide)) (fun _ => ?_)
                    refine w_blk 6 (pc' := 143) (ls' := [some (.ref 53), some (.int (nI q)), some (.int (nI t')), some (.int (nI w')), some (.int (nI (((wgt n c t' (k / 4096)) + (wgt n c t' (k / 64 % 64))) + (wgt n c t' (k % 64))))), some (.int (nI i)), some (.int (nI (((wgt n c t' (k / 4096)) + (wgt n c t' (k / 64 % 64))) + (wgt n c t' (k % 64))))), some (.int 1)]) (sk' := [.int 1, .ref 76, .int 1, .ref 77]) (st' := ((mU s1.1 77 0 (nI (k / 4096))), s1.2)) (fun _ h => h) ?_
                    refine w_iald rfl rfl (vp_in_nI (n := 1) (N := 3) (by decide) (by decide)) ?_
                    rw [show Int32.toNatClampNeg (1 : Int32) = 1 from rfl]
                    show mW (mMC mT (d + 1)) (0, fun _ => 0) (mAtL P_X10_rings) (some .int) Q 144 [some (.ref 53), some (.int (nI q)), some (.int (nI t')), some (.int (nI w')), some (.int (nI (((wgt n c t' (k / 4096)) + (wgt n c t' (k / 64 % 64))) + (wgt n c t' (k % 64))))), some (.int (nI i)), some (.int (nI (((wgt n c t' (k / 4096)) + (wgt n c t' (k / 64 % 64))) + (wgt n c t' (k % 64))))), some (.int 1)] [.int (s1.1 76 1), .int 1, .ref 77] ((mU s1.1 77 0 (nI (k / 4096))), s1.2)
                    rw [hG.2.1]
                    refine w_iast rfl rfl (vp_in_nI (n := 1) (N := 3) (by decide) (by decide)) ?_
                    rw [show Int32.toNatClampNeg (1 : Int32) = 1 from rfl]
                    refine w_blk 1 (pc' := 148) (ls' := [some (.ref 53), some (.int (nI q)), some (.int (nI t')), some (.int (nI w')), some (.int (nI (((wgt n c t' (k / 4096)) + (wgt n c t' (k / 64 % 64))) + (wgt n c t' (k % 64))))), some (.int (nI i)), some (.int (nI (((wgt n c t' (k / 4096)) + (wgt n c t' (k / 64 % 64))) + (wgt n c t' (k % 64))))), some (.int (1 + 1))]) (sk' := []) (st' := ((mU (mU s1.1 77 0 (nI (k / 4096))) 77 1 (nI (k / 64 % 64))), s1.2)) (fun _ h => h) ?_
                    rw [show (1 + 1 : Int32) = 2 from rfl]
                    refine w_blk 3 (pc' := 128) (ls' := [some (.ref 53), some (.int (nI q)), some (.int (nI t')), some (.int (nI w')), some (.int (nI (((wgt n c t' (k / 4096)) + (wgt n c t' (k / 64 % 64))) + (wgt n c t' (k % 64))))), some (.int (nI i)), some (.int (nI (((wgt n c t' (k / 4096)) + (wgt n c t' (k / 64 % 64))) + (wgt n c t' (k % 64))))), some (.int 2)]) (sk' := [.int 3, .int 2]) (st' := ((mU (mU s1.1 77 0 (nI (k / 4096))) 77 1 (nI (k / 64 % 64))), s1.2)) (fun _ h => h) ?_
                    refine w_cmp_ge rfl (fun hno => absurd hno (by decide)) (fun _ => ?_)
                    refine w_blk 6 (pc' := 143) (ls' := [some (.ref 53), some (.int (nI q)), some (.int (nI t')), some (.int (nI w')), some (.int (nI (((wgt n c t' (k / 4096)) + (wgt n c t' (k / 64 % 64))) + (wgt n c t' (k % 64))))), some (.int (nI i)), some (.int (nI (((wgt n c t' (k / 4096)) + (wgt n c t' (k / 64 % 64))) + (wgt n c t' (k % 64))))), some (.int 2)]) (sk' := [.int 2, .ref 76, .int 2, .ref 77]) (st' := ((mU (mU s1.1 77 0 (nI (k / 4096))) 77 1 (nI (k / 64 % 64))), s1.2)) (fun _ h => h) ?_
                    refine w_iald rfl rfl (vp_in_nI (n := 2) (N := 3) (by decide) (by decide)) ?_
                    rw [show Int32.toNatClampNeg (2 : Int32) = 2 from rfl]
                    show mW (mMC mT (d + 1)) (0, fun _ => 0) (mAtL P_X10_rings) (some .int) Q 144 [some (.ref 53), some (.int (nI q)), some (.int (nI t')), some (.int (nI w')), some (.int (nI (((wgt n c t' (k / 4096)) + (wgt n c t' (k / 64 % 64))) + (wgt n c t' (k % 64))))), some (.int (nI i)), some (.int (nI (((wgt n c t' (k / 4096)) + (wgt n c t' (k / 64 % 64))) + (wgt n c t' (k % 64))))), some (.int 2)] [.int (s1.1 76 2), .int 2, .ref 77] ((mU (mU s1.1 77 0 (nI (k / 4096))) 77 1 (nI (k / 64 % 64))), s1.2)
                    rw [hG.2.2]
                    refine w_iast rfl rfl (vp_in_nI (n := 2) (N := 3) (by decide) (by decide)) ?_
                    rw [show Int32.toNatClampNeg (2 : Int32) = 2 from rfl]
                    refine w_blk 1 (pc' := 148) (ls' := [some (.ref 53), some (.int (nI q)), some (.int (nI t')), some (.int (nI w')), some (.int (nI (((wgt n c t' (k / 4096)) + (wgt n c t' (k / 64 % 64))) + (wgt n c t' (k % 64))))), some (.int (nI i)), some (.int (nI (((wgt n c t' (k / 4096)) + (wgt n c t' (k / 64 % 64))) + (wgt n c t' (k % 64))))), some (.int (2 + 1))]) (sk' := []) (st' := ((mU (mU (mU s1.1 77 0 (nI (k / 4096))) 77 1 (nI (k / 64 % 64))) 77 2 (nI (k % 64))), s1.2)) (fun _ h => h) ?_
                    rw [show (2 + 1 : Int32) = 3 from rfl]
                    refine w_blk 3 (pc' := 128) (ls' := [some (.ref 53), some (.int (nI q)), some (.int (nI t')), some (.int (nI w')), some (.int (nI (((wgt n c t' (k / 4096)) + (wgt n c t' (k / 64 % 64))) + (wgt n c t' (k % 64))))), some (.int (nI i)), some (.int (nI (((wgt n c t' (k / 4096)) + (wgt n c t' (k / 64 % 64))) + (wgt n c t' (k % 64))))), some (.int 3)]) (sk' := [.int 3, .int 3]) (st' := ((mU (mU (mU s1.1 77 0 (nI (k / 4096))) 77 1 (nI (k / 64 % 64))) 77 2 (nI (k % 64))), s1.2)) (fun _ h => h) ?_
                    refine w_cmp_ge rfl (fun _ => ?_) (fun hno => absurd (by decide) hno)
                    refine w_blk 1 (pc' := 154) (ls' := [some (.ref 53), some (.int (nI q)), some (.int (nI t')), some (.int (nI w')), some (.int (nI (((wgt n c t' (k / 4096)) + (wgt n c t' (k / 64 % 64))) + (wgt n c t' (k % 64))))), some (.int ((nI i) + 1)), some (.int (nI (((wgt n c t' (k / 4096)) + (wgt n c t' (k / 64 % 64))) + (wgt n c t' (k % 64))))), some (.int 3)]) (sk' := []) (st' := ((mU (mU (mU s1.1 77 0 (nI (k / 4096))) 77 1 (nI (k / 64 % 64))) 77 2 (nI (k % 64))), s1.2)) (fun _ h => h) ?_
                    rw [show ((nI i) + 1) = nI (i + 1) from nI_add i 1]
                    refine w_blk 1 (pc' := 42) (ls' := [some (.ref 53), some (.int (nI q)), some (.int (nI t')), some (.int (nI w')), some (.int (nI (((wgt n c t' (k / 4096)) + (wgt n c t' (k / 64 % 64))) + (wgt n c t' (k % 64))))), some (.int (nI (i + 1))), some (.int (nI (((wgt n c t' (k / 4096)) + (wgt n c t' (k / 64 % 64))) + (wgt n c t' (k % 64))))), some (.int 3)]) (sk' := []) (st' := ((mU (mU (mU s1.1 77 0 (nI (k / 4096))) 77 1 (nI (k / 64 % 64))) 77 2 (nI (k % 64))), s1.2)) (fun _ h => h) ?_
                    exact (by have hh := ih (i + 1) (some k) ((mU (mU (mU s1.1 77 0 (nI (k / 4096))) 77 1 (nI (k / 64 % 64))) 77 2 (nI (k % 64))), s1.2) (some (.int (nI (((wgt n c t' (k / 4096)) + (wgt n c t' (k / 64 % 64))) + (wgt n c t' (k % 64)))))) (some (.int 3)) (by omega) (Fr.trans (Fr.trans (Fr.trans hf2 (Fr.mU (by decide))) (Fr.mU (by decide))) (Fr.mU (by decide))) ⟨rfl, rfl, rfl⟩ (by rw [mL_some hk]; have h8 := SP_stM hSP k; rw [show stM _ k (some b) = some k from if_pos (Or.inr ⟨by omega, by omega⟩)] at h8; exact h8); exact hh)
      · replace h3 := pI_eq0.mp (Decidable.not_not.mp h3)
        refine w_blk 1 (pc' := 35) (ls' := [some (.ref 53), some (.int g), some (.int t), some (.int wh), none, none, none, none]) (sk' := [.int (-1)]) (st' := st) (fun _ h => h) ?_
        have hno : ¬ ((1 ≤ g ∧ g ≤ 3) ∧ (1 ≤ t ∧ t ≤ 999) ∧ (0 ≤ wh ∧ wh ≤ nI (n 0))) := fun hh => by first | exact h1 hh.1 | exact h2 hh.2.1 | exact h3 hh.2.2
        exact w_iret rfl rfl rfl (hq _ st ⟨(if_neg hno : RGs n c g t wh (-1) = ((-1 : Int32) = -1)).mpr rfl, Fr.rf⟩)
