/-! FOLLOW: the class: what sets of diggers say -/
def OBE (ob : Nat → Nat) (E : EdT) : Prop := ∀ s, s < 8 → ob s < 64 ∧ ∀ d, d < 6 → ((ob s).testBit d = true ↔ E d s = true)
def FO (st : mSt) (ob : Nat → Nat) : Prop := ∀ s, s < 8 → st.1 33 s = nI (ob s)
theorem tb_hi {m k : Nat} (hm : m < 64) (hk : 6 ≤ k) : m.testBit k = false := Nat.testBit_lt_two_pow (Nat.lt_of_lt_of_le hm (show 2 ^ 6 ≤ 2 ^ k from Nat.pow_le_pow_right (by decide) hk))
theorem pop_popm {m : Nat} (hm : m < 64) : pop m 8 = popm m := by
  rw [pop_sm]
  show sm (fun p => if m.testBit p = true then 1 else 0) 6 + (if m.testBit 6 = true then 1 else 0) + (if m.testBit 7 = true then 1 else 0) = popm m
  rw [if_neg (by rw [tb_hi hm (by decide)]; decide), if_neg (by rw [tb_hi hm (by decide)]; decide)]
  rfl
theorem pop_cnt {ob : Nat → Nat} {E : EdT} {s m : Nat} (h : OBE ob E) (hs : s < 8) : pop (ob s &&& m) 8 = cnt E m s := by
  rw [pop_popm (Nat.lt_of_le_of_lt Nat.and_le_left (h s hs).1)]
  refine sm_congr 6 (fun d hd => ?_)
  rw [Nat.testBit_and]
  have h1 := (h s hs).2 d hd
  by_cases e : ((ob s).testBit d && m.testBit d) = true
  · have e2 := e
    rw [Bool.and_eq_true] at e2
    rw [if_pos e, if_pos (show m.testBit d = true ∧ E d s = true from ⟨e2.2, h1.mp e2.1⟩)]
  · rw [if_neg e, if_neg (show ¬ (m.testBit d = true ∧ E d s = true) from fun hh => e (by rw [Bool.and_eq_true]; exact ⟨h1.mpr hh.2, hh.1⟩))]
theorem sub_pI {r : Nat} {p : Prop} [Decidable p] (h : 1 ≤ r) : nI r - pI p = nI (r - (if p then 1 else 0)) := by
  by_cases e : p
  · rw [pI_t e, if_pos e]
    exact pk_sub (a := r) (b := 1) h
  · rw [pI_f e, if_neg e]
    exact pk_sub (a := r) (b := 0) (Nat.zero_le _)
def fitsB (E : EdT) (r nd sv sp : Nat) : Bool := decide (∀ m, m < 2 ^ nd → r * popm m ≤ popm (m &&& sv) + sm (fun s => min (r - (if sp.testBit s = true then 1 else 0)) (cnt E m s)) 8)
theorem fitsB_iff {E : EdT} {r nd sv sp : Nat} : fitsB E r nd sv sp = true ↔ fits E r nd sv sp := decide_eq_true_iff
theorem popm_6 (m : Nat) : popm m ≤ 6 := by
  have h : popm m ≤ sm (fun _ => 1) 6 := sm_le 6 (fun k _ => by split <;> decide)
  exact h
theorem popm_and (m sv : Nat) : popm (m &&& sv) ≤ popm m := sm_le 6 (fun d _ => by
  rw [Nat.testBit_and]
  by_cases e : m.testBit d = true
  · rw [if_pos e]
    split <;> decide
  · rw [if_neg e, Bool.eq_false_iff.mpr e, Bool.false_and]
    exact Nat.le_refl _)
set_option maxRecDepth 20000 in
/-- bearable(m, r, sp) -/
theorem c_bearable (d : Nat) (E : EdT) (ob : Nat → Nat) (z r sp : Nat) (st : mSt) (hO : FO st ob) (hB : OBE ob E) (hm : z < 64) (hr : 1 ≤ r) (hr8 : r ≤ 8) (hsp : sp < 256) : mMC mT (d + 2) 16 [.ref 31, .int (nI z), .int (nI r), .int (nI sp)] st (some (.int (nI (sm (fun s => min (r - (if sp.testBit s = true then 1 else 0)) (cnt E z s)) 8)))) st := by
  refine mI_X0_bearable (d := d + 1) (Nat.le_of_ble_eq_true rfl) (fun Q hq => ?_)
  show mW (mMC mT (d + 1)) (0, fun _ => 0) (mAtL P_X0_bearable) (some .int) Q 0 [some (.ref 31), some (.int (nI z)), some (.int (nI r)), some (.int (nI sp)), none, none, none] [] st
  have hle : ∀ k, k ≤ 8 → sm (fun s => min (r - (if sp.testBit s = true then 1 else 0)) (cnt E z s)) k ≤ 8 * k := by
    intro k
    induction k with
    | zero => exact fun _ => Nat.le_refl _
    | succ k ih =>
      intro hk
      have h1 := ih (by omega)
      show sm (fun s => min (r - (if sp.testBit s = true then 1 else 0)) (cnt E z s)) k + min (r - (if sp.testBit k = true then 1 else 0)) (cnt E z k) ≤ _
      have h2 : min (r - (if sp.testBit k = true then 1 else 0)) (cnt E z k) ≤ 8 := Nat.le_trans (Nat.min_le_left _ _) (Nat.le_trans (Nat.sub_le _ _) hr8)
      omega
  refine w_blk 4 (pc' := 6) (ls' := [some (.ref 31), some (.int (nI z)), some (.int (nI r)), some (.int (nI sp)), some (.int 0), some (.int 0), none]) (sk' := []) (st' := st) (fun _ h => h) ?_
  have key : ∀ (m k : Nat), k + m = 8 → ∀ (l6 : Option Value), mW (mMC mT (d + 1)) (0, fun _ => 0) (mAtL P_X0_bearable) (some .int) Q 6 [some (.ref 31), some (.int (nI z)), some (.int (nI r)), some (.int (nI sp)), some (.int (nI (sm (fun s => min (r - (if sp.testBit s = true then 1 else 0)) (cnt E z s)) k))), some (.int (nI k)), l6] [] st := by
    intro m
    induction m with
    | zero =>
      intro k hk l6
      obtain rfl : 8 = k := by omega
      refine w_blk 4 (pc' := 13) (ls' := [some (.ref 31), some (.int (nI z)), some (.int (nI r)), some (.int (nI sp)), some (.int (nI (sm (fun s => min (r - (if sp.testBit s = true then 1 else 0)) (cnt E z s)) 8))), some (.int (nI 8)), l6]) (sk' := [.int (Int32.ofNat 8), .int (nI 8)]) (st' := st) (fun _ h => h) ?_
      rw [show (Int32.ofNat 8) = nI 8 from rfl]
      refine w_cmp_ge rfl (fun _ => ?_) (fun hno => absurd (Int32.le_refl _) hno)
      refine w_blk 1 (pc' := 56) (ls' := [some (.ref 31), some (.int (nI z)), some (.int (nI r)), some (.int (nI sp)), some (.int (nI (sm (fun s => min (r - (if sp.testBit s = true then 1 else 0)) (cnt E z s)) 8))), some (.int (nI 8)), l6]) (sk' := [.int (nI (sm (fun s => min (r - (if sp.testBit s = true then 1 else 0)) (cnt E z s)) 8))]) (st' := st) (fun _ h => h) ?_
      exact w_iret rfl rfl rfl hq
    | succ m ih =>
      intro k hk l6
      have hk8 : k < 8 := by omega
      have hob := (hB k hk8).1
      have hbk := hle k (by omega)
      have hcn := pop_cnt (m := z) hB hk8
      have hc8 := pop_le8 (ob k &&& z)
      have ha64 : ob k &&& z < 256 := Nat.lt_of_le_of_lt Nat.and_le_left (by omega)
      refine w_blk 4 (pc' := 13) (ls' := [some (.ref 31), some (.int (nI z)), some (.int (nI r)), some (.int (nI sp)), some (.int (nI (sm (fun s => min (r - (if sp.testBit s = true then 1 else 0)) (cnt E z s)) k))), some (.int (nI k)), l6]) (sk' := [.int (Int32.ofNat 8), .int (nI k)]) (st' := st) (fun _ h => h) ?_
      rw [show (Int32.ofNat 8) = nI 8 from rfl]
      refine w_cmp_ge rfl (fun hno => absurd hno (nI_ge hk8 (by omega))) (fun _ => ?_)
      refine w_blk 6 (pc' := 23) (ls' := [some (.ref 31), some (.int (nI z)), some (.int (nI r)), some (.int (nI sp)), some (.int (nI (sm (fun s => min (r - (if sp.testBit s = true then 1 else 0)) (cnt E z s)) k))), some (.int (nI k)), l6]) (sk' := [.int (((Int32.toUInt32 (nI sp) >>> (Int32.toUInt32 (nI k) &&& Int32.toUInt32 31)).toInt32) &&& 1), .int (nI r)]) (st' := st) (fun _ h => h) ?_
      rw [nI_ubit (by omega) (by omega)]
      refine w_blk 1 (pc' := 24) (ls' := [some (.ref 31), some (.int (nI z)), some (.int (nI r)), some (.int (nI sp)), some (.int (nI (sm (fun s => min (r - (if sp.testBit s = true then 1 else 0)) (cnt E z s)) k))), some (.int (nI k)), l6]) (sk' := [.int ((nI r) - (pI (sp.testBit k = true)))]) (st' := st) (fun _ h => h) ?_
      rw [sub_pI hr]
      have hmn : r - (if sp.testBit k = true then 1 else 0) ≤ 8 := Nat.le_trans (Nat.sub_le _ _) hr8
      refine w_blk 6 (pc' := 36) (ls' := [some (.ref 31), some (.int (nI z)), some (.int (nI r)), some (.int (nI sp)), some (.int (nI (sm (fun s => min (r - (if sp.testBit s = true then 1 else 0)) (cnt E z s)) k))), some (.int (nI k)), some (.int (nI (r - (if sp.testBit k = true then 1 else 0))))]) (sk' := [.int (nI k), .ref 33, .int (nI (r - (if sp.testBit k = true then 1 else 0))), .int (nI (sm (fun s => min (r - (if sp.testBit s = true then 1 else 0)) (cnt E z s)) k))]) (st' := st) (fun _ h => h) ?_
      refine w_iald rfl rfl (vp_in_nI (n := k) (N := 8) (by omega) (by decide)) ?_
      rw [nI_clamp (show k < 2 ^ 31 by omega)]
      rw [hO k (by omega)]
      refine w_blk 2 (pc' := 39) (ls' := [some (.ref 31), some (.int (nI z)), some (.int (nI r)), some (.int (nI sp)), some (.int (nI (sm (fun s => min (r - (if sp.testBit s = true then 1 else 0)) (cnt E z s)) k))), some (.int (nI k)), some (.int (nI (r - (if sp.testBit k = true then 1 else 0))))]) (sk' := [.int ((nI (ob k)) &&& (nI z)), .int (nI (r - (if sp.testBit k = true then 1 else 0))), .int (nI (sm (fun s => min (r - (if sp.testBit s = true then 1 else 0)) (cnt E z s)) k))]) (st' := st) (fun _ h => h) ?_
      rw [show ((nI (ob k)) &&& (nI z)) = nI ((ob k) &&& z) from nI_and (ob k) z]
      refine w_callS (As := [.int (nI ((ob k) &&& z))]) (rest := [.int (nI (r - (if sp.testBit k = true then 1 else 0))), .int (nI (sm (fun s => min (r - (if sp.testBit s = true then 1 else 0)) (cnt E z s)) k))]) rfl rfl rfl (Nat.le_of_ble_eq_true rfl) (Nat.le_of_ble_eq_true rfl) (c_bitCountK (d + 0) ((ob k) &&& z) st (by omega)) ?_
      rw [hcn] at hc8
      rw [hcn]
      refine w_callS (As := [.int (nI (r - (if sp.testBit k = true then 1 else 0))), .int (nI (cnt E z k))]) (rest := [.int (nI (sm (fun s => min (r - (if sp.testBit s = true then 1 else 0)) (cnt E z s)) k))]) rfl rfl rfl (Nat.le_of_ble_eq_true rfl) (Nat.le_of_ble_eq_true rfl) (c_minK (d + 0) (r - (if sp.testBit k = true then 1 else 0)) (cnt E z k) st (by omega) (by omega)) ?_
      refine w_blk 1 (pc' := 46) (ls' := [some (.ref 31), some (.int (nI z)), some (.int (nI r)), some (.int (nI sp)), some (.int (nI (sm (fun s => min (r - (if sp.testBit s = true then 1 else 0)) (cnt E z s)) k))), some (.int (nI k)), some (.int (nI (r - (if sp.testBit k = true then 1 else 0))))]) (sk' := [.int ((nI (sm (fun s => min (r - (if sp.testBit s = true then 1 else 0)) (cnt E z s)) k)) + (nI (min (r - (if sp.testBit k = true then 1 else 0)) (cnt E z k))))]) (st' := st) (fun _ h => h) ?_
      rw [show ((nI (sm (fun s => min (r - (if sp.testBit s = true then 1 else 0)) (cnt E z s)) k)) + (nI (min (r - (if sp.testBit k = true then 1 else 0)) (cnt E z k)))) = nI ((sm (fun s => min (r - (if sp.testBit s = true then 1 else 0)) (cnt E z s)) k) + (min (r - (if sp.testBit k = true then 1 else 0)) (cnt E z k))) from nI_add (sm (fun s => min (r - (if sp.testBit s = true then 1 else 0)) (cnt E z s)) k) (min (r - (if sp.testBit k = true then 1 else 0)) (cnt E z k))]
      refine w_blk 2 (pc' := 51) (ls' := [some (.ref 31), some (.int (nI z)), some (.int (nI r)), some (.int (nI sp)), some (.int (nI ((sm (fun s => min (r - (if sp.testBit s = true then 1 else 0)) (cnt E z s)) k) + (min (r - (if sp.testBit k = true then 1 else 0)) (cnt E z k))))), some (.int ((nI k) + 1)), some (.int (nI (r - (if sp.testBit k = true then 1 else 0))))]) (sk' := []) (st' := st) (fun _ h => h) ?_
      rw [show ((nI k) + 1) = nI (k + 1) from nI_add k 1]
      refine w_blk 1 (pc' := 6) (ls' := [some (.ref 31), some (.int (nI z)), some (.int (nI r)), some (.int (nI sp)), some (.int (nI ((sm (fun s => min (r - (if sp.testBit s = true then 1 else 0)) (cnt E z s)) k) + (min (r - (if sp.testBit k = true then 1 else 0)) (cnt E z k))))), some (.int (nI (k + 1))), some (.int (nI (r - (if sp.testBit k = true then 1 else 0))))]) (sk' := []) (st' := st) (fun _ h => h) ?_
      exact ih (k + 1) (by omega) _
  exact key (8 - 0) 0 (by omega) none
set_option maxRecDepth 20000 in
/-- fits(r, sv, sp) -/
theorem c_fits (d : Nat) (n : Nat → Nat) (E : EdT) (ob : Nat → Nat) (r sv sp : Nat) (st : mSt) (hn : n 0 ≤ 6) (hD : st.1 31 2 = nI (n 0)) (hO : FO st ob) (hB : OBE ob E) (hr : 1 ≤ r) (hr8 : r ≤ 8) (hsv : sv < 256) (hsp : sp < 256) : mMC mT (d + 3) 15 [.ref 31, .int (nI r), .int (nI sv), .int (nI sp)] st (some (.int (pI (fitsB E r (n 0) sv sp = true)))) st := by
  refine mI_X0_fits (d := d + 2) (Nat.le_of_ble_eq_true rfl) (fun Q hq => ?_)
  show mW (mMC mT (d + 2)) (0, fun _ => 0) (mAtL P_X0_fits) (some .boolean) Q 0 [some (.ref 31), some (.int (nI r)), some (.int (nI sv)), some (.int (nI sp)), none, none] [] st
  obtain ⟨A, hA⟩ : ∃ A, A = 2 ^ n 0 := ⟨_, rfl⟩
  have hA64 : A ≤ 64 := by rw [hA]; exact (show 2 ^ n 0 ≤ 2 ^ 6 from Nat.pow_le_pow_right (by decide) hn)
  have hA1 : 1 ≤ A := by rw [hA]; exact Nat.two_pow_pos _
  have hle : ∀ m, sm (fun s => min (r - (if sp.testBit s = true then 1 else 0)) (cnt E m s)) 8 ≤ 64 := fun m => by
    have h1 : sm (fun s => min (r - (if sp.testBit s = true then 1 else 0)) (cnt E m s)) 8 ≤ sm (fun _ => 8) 8 := sm_le 8 (fun s _ => Nat.le_trans (Nat.min_le_left _ _) (Nat.le_trans (Nat.sub_le _ _) hr8))
    exact h1
  refine w_blk 2 (pc' := 3) (ls' := [some (.ref 31), some (.int (nI r)), some (.int (nI sv)), some (.int (nI sp)), some (.int 1), none]) (sk' := []) (st' := st) (fun _ h => h) ?_
  suffices key : ∀ (q m : Nat) (l5 : Option Value), m + q = A → 1 ≤ m → (∀ m', m' < m → r * popm m' ≤ popm (m' &&& sv) + sm (fun s => min (r - (if sp.testBit s = true then 1 else 0)) (cnt E m' s)) 8) → mW (mMC mT (d + 2)) (0, fun _ => 0) (mAtL P_X0_fits) (some .boolean) Q 3 [some (.ref 31), some (.int (nI r)), some (.int (nI sv)), some (.int (nI sp)), some (.int (nI m)), l5] [] st from key (A - 1) 1 none (by omega) (by omega) (fun m' h => by rw [show m' = 0 by omega, show popm 0 = 0 from sm_zero 6 (fun d _ => by rw [Nat.zero_testBit]; rfl), Nat.mul_zero]; exact Nat.zero_le _)
  intro q
  induction q with
  | zero =>
    intro m l5 hm h1 hall
    obtain rfl : A = m := by omega
    refine w_blk 4 (pc' := 10) (ls' := [some (.ref 31), some (.int (nI r)), some (.int (nI sv)), some (.int (nI sp)), some (.int (nI A)), l5]) (sk' := [.int (st.1 31 2), .int 1, .int (nI A)]) (st' := st) (fun _ h => h) ?_
    rw [hD]
    refine w_blk 1 (pc' := 11) (ls' := [some (.ref 31), some (.int (nI r)), some (.int (nI sv)), some (.int (nI sp)), some (.int (nI A)), l5]) (sk' := [.int (1 <<< ((nI (n 0)) &&& 31)), .int (nI A)]) (st' := st) (fun _ h => h) ?_
    rw [show (1 <<< ((nI (n 0)) &&& 31)) = nI (2 ^ (n 0)) from nI_shl1 (by omega)]
    rw [show nI (2 ^ n 0) = nI A from congrArg nI hA.symm]
    refine w_cmp_ge rfl (fun _ => ?_) (fun hno => absurd (Int32.le_refl _) hno)
    refine w_blk 1 (pc' := 53) (ls' := [some (.ref 31), some (.int (nI r)), some (.int (nI sv)), some (.int (nI sp)), some (.int (nI A)), l5]) (sk' := [.int 1]) (st' := st) (fun _ h => h) ?_
    rw [show pI (fitsB E r (n 0) sv sp = true) = 1 from pI_t (fitsB_iff.mpr (fun m hm => hall m (by omega)))] at hq
    exact w_iret rfl rfl rfl hq
  | succ q ih =>
    intro m l5 hm h1 hall
    have hmA : m < A := by omega
    have hp6 := popm_6 m
    have hpa := popm_and m sv
    have hpm := pop_popm (m := m) (by omega)
    have hms : m &&& sv < 64 := Nat.lt_of_le_of_lt Nat.and_le_left (by omega)
    have hpm2 := pop_popm (m := m &&& sv) hms
    have hle9 := hle m
    have hrm : popm m ≤ r * popm m := Nat.le_mul_of_pos_left _ hr
    have hrb : r * popm m ≤ 8 * 6 := Nat.mul_le_mul hr8 hp6
    refine w_blk 4 (pc' := 10) (ls' := [some (.ref 31), some (.int (nI r)), some (.int (nI sv)), some (.int (nI sp)), some (.int (nI m)), l5]) (sk' := [.int (st.1 31 2), .int 1, .int (nI m)]) (st' := st) (fun _ h => h) ?_
    rw [hD]
    refine w_blk 1 (pc' := 11) (ls' := [some (.ref 31), some (.int (nI r)), some (.int (nI sv)), some (.int (nI sp)), some (.int (nI m)), l5]) (sk' := [.int (1 <<< ((nI (n 0)) &&& 31)), .int (nI m)]) (st' := st) (fun _ h => h) ?_
    rw [show (1 <<< ((nI (n 0)) &&& 31)) = nI (2 ^ (n 0)) from nI_shl1 (by omega)]
    rw [show nI (2 ^ n 0) = nI A from congrArg nI hA.symm]
    refine w_cmp_ge rfl (fun hno => absurd hno (nI_ge hmA (by omega))) (fun _ => ?_)
    refine w_blk 2 (pc' := 17) (ls' := [some (.ref 31), some (.int (nI r)), some (.int (nI sv)), some (.int (nI sp)), some (.int (nI m)), l5]) (sk' := [.int (nI m), .int (nI r)]) (st' := st) (fun _ h => h) ?_
    refine w_callS (As := [.int (nI m)]) (rest := [.int (nI r)]) rfl rfl rfl (Nat.le_of_ble_eq_true rfl) (Nat.le_of_ble_eq_true rfl) (c_bitCountK (d + 1) m st (by omega)) ?_
    rw [hpm]
    refine w_blk 1 (pc' := 21) (ls' := [some (.ref 31), some (.int (nI r)), some (.int (nI sv)), some (.int (nI sp)), some (.int (nI m)), l5]) (sk' := [.int ((nI r) * (nI (popm m)))]) (st' := st) (fun _ h => h) ?_
    rw [show ((nI r) * (nI (popm m))) = nI (r * (popm m)) from pk_mul r (popm m)]
    refine w_blk 3 (pc' := 25) (ls' := [some (.ref 31), some (.int (nI r)), some (.int (nI sv)), some (.int (nI sp)), some (.int (nI m)), l5]) (sk' := [.int ((nI m) &&& (nI sv)), .int (nI (r * (popm m)))]) (st' := st) (fun _ h => h) ?_
    rw [show ((nI m) &&& (nI sv)) = nI (m &&& sv) from nI_and m sv]
    refine w_callS (As := [.int (nI (m &&& sv))]) (rest := [.int (nI (r * (popm m)))]) rfl rfl rfl (Nat.le_of_ble_eq_true rfl) (Nat.le_of_ble_eq_true rfl) (c_bitCountK (d + 1) (m &&& sv) st (by omega)) ?_
    rw [hpm2]
    refine w_blk 1 (pc' := 29) (ls' := [some (.ref 31), some (.int (nI r)), some (.int (nI sv)), some (.int (nI sp)), some (.int (nI m)), l5]) (sk' := [.int ((nI (r * (popm m))) - (nI (popm (m &&& sv))))]) (st' := st) (fun _ h => h) ?_
    rw [show ((nI (r * (popm m))) - (nI (popm (m &&& sv)))) = nI ((r * (popm m)) - (popm (m &&& sv))) from pk_sub (a := r * (popm m)) (b := popm (m &&& sv)) (by omega)]
    refine w_blk 6 (pc' := 38) (ls' := [some (.ref 31), some (.int (nI r)), some (.int (nI sv)), some (.int (nI sp)), some (.int (nI m)), some (.int (nI ((r * (popm m)) - (popm (m &&& sv)))))]) (sk' := [.int (nI sp), .int (nI r), .int (nI m), .ref 31, .int (nI ((r * (popm m)) - (popm (m &&& sv))))]) (st' := st) (fun _ h => h) ?_
    refine w_callV (As := [.ref 31, .int (nI m), .int (nI r), .int (nI sp)]) (rest := [.int (nI ((r * (popm m)) - (popm (m &&& sv))))]) rfl rfl rfl (Nat.le_of_ble_eq_true rfl) (Nat.le_of_ble_eq_true rfl) (by first | exact Or.inl ⟨rfl, rfl⟩ | exact Or.inr ⟨rfl, rfl⟩) (c_bearable (d + 0) E ob m r sp st hO hB (by omega) (by omega) (by omega) (by omega)) ?_
    refine w_cmp_le rfl (fun h2 => ?_) (fun h2 => ?_)
    · replace h2 : (r * (popm m)) - (popm (m &&& sv)) ≤ sm (fun s => min (r - (if (sp).testBit s = true then 1 else 0)) (cnt E m s)) 8 := (nI_leI (a := ((r * (popm m)) - (popm (m &&& sv)))) (b := (sm (fun s => min (r - (if (sp).testBit s = true then 1 else 0)) (cnt E m s)) 8)) (by omega) (by omega)).mp h2
      refine w_blk 1 (pc' := 49) (ls' := [some (.ref 31), some (.int (nI r)), some (.int (nI sv)), some (.int (nI sp)), some (.int ((nI m) + 1)), some (.int (nI ((r * (popm m)) - (popm (m &&& sv)))))]) (sk' := []) (st' := st) (fun _ h => h) ?_
      rw [show ((nI m) + 1) = nI (m + 1) from nI_add m 1]
      refine w_blk 1 (pc' := 3) (ls' := [some (.ref 31), some (.int (nI r)), some (.int (nI sv)), some (.int (nI sp)), some (.int (nI (m + 1))), some (.int (nI ((r * (popm m)) - (popm (m &&& sv)))))]) (sk' := []) (st' := st) (fun _ h => h) ?_
      exact ih (m + 1) _ (by omega) (by omega) (fun m' h9 => if e : m' = m then (by rw [e]; omega) else hall m' (by omega))
    · replace h2 : ¬ ((r * (popm m)) - (popm (m &&& sv)) ≤ sm (fun s => min (r - (if (sp).testBit s = true then 1 else 0)) (cnt E m s)) 8) := fun hh => h2 ((nI_leI (a := ((r * (popm m)) - (popm (m &&& sv)))) (b := (sm (fun s => min (r - (if (sp).testBit s = true then 1 else 0)) (cnt E m s)) 8)) (by omega) (by omega)).mpr hh)
      refine w_blk 1 (pc' := 45) (ls' := [some (.ref 31), some (.int (nI r)), some (.int (nI sv)), some (.int (nI sp)), some (.int (nI m)), some (.int (nI ((r * (popm m)) - (popm (m &&& sv)))))]) (sk' := [.int 0]) (st' := st) (fun _ h => h) ?_
      rw [show pI (fitsB E r (n 0) sv sp = true) = 0 from pI_f (fun hh => by have h9 := (fitsB_iff.mp hh) m (by omega); omega)] at hq
      exact w_iret rfl rfl rfl hq
set_option maxRecDepth 20000 in
/-- findRounds() -/
theorem c_findRounds (d : Nat) (n : Nat → Nat) (E : EdT) (ob : Nat → Nat) (st : mSt) (hb0 : n 0 ≤ 6) (hD : st.1 31 2 = nI (n 0)) (hO : FO st ob) (hOB : OBE ob E) : ∃ (R : Nat) (s : mSt), mMC mT (d + 4) 14 [.ref 31] st (some (.int (nI R))) s ∧ LGR (fun q => hallB E q (n 0)) (n 0) R ∧ st = s := by
  suffices H : ∀ Q : Option Value → mSt → Prop, (∀ (R : Nat) (s : mSt), (LGR (fun q => hallB E q (n 0)) (n 0) R ∧ st = s) → Q (some (.int (nI R))) s) → mW (mMC mT (d + 3)) (0, fun _ => 0) (mAtL P_X0_findRounds) (some .int) Q 0 [some (.ref 31), none, none] [] st by
    obtain ⟨_, _, ⟨R, s, rfl, rfl, hp⟩, hw⟩ := mW_ex (H (fun vv tt => ∃ (R : Nat) (s : mSt),  vv = some (.int (nI R)) ∧ s = tt ∧ LGR (fun q => hallB E q (n 0)) (n 0) R ∧ st = s) (fun R s hp => ⟨R, s, rfl, rfl, hp⟩))
    exact ⟨R, s, mI_X0_findRounds (d := d + 3) (Nat.le_of_ble_eq_true rfl) hw, hp⟩
  intro Q hq
  have hfh : ∀ q, fitsB E q (n 0) 0 0 = hallB E q (n 0) := fun q => Bool.eq_iff_iff.mpr (fitsB_iff.trans (hall_fits.trans hallB_iff.symm))
  refine w_blk 4 (pc' := 4) (ls' := [some (.ref 31), some (.int 0), some (.int 1)]) (sk' := []) (st' := st) (fun _ h => h) ?_
  suffices key : ∀ (m r : Nat), r + m = 8 → (∀ q, 1 ≤ q → q ≤ r → hallB E q (n 0) = true) → (n 0 = 0 → r = 0) → mW (mMC mT (d + 3)) (0, fun _ => 0) (mAtL P_X0_findRounds) (some .int) Q 4 [some (.ref 31), some (.int (nI r)), some (.int (nI (r + 1)))] [] st from key 8 0 (by omega) (fun q h1 h2 => absurd h1 (by omega)) (fun _ => rfl)
  intro m
  induction m with
  | zero =>
    intro r hm hall h00
    refine w_blk 2 (pc' := 7) (ls' := [some (.ref 31), some (.int (nI r)), some (.int (nI (r + 1)))]) (sk' := [.int 8, .int (nI (r + 1))]) (st' := st) (fun _ h => h) ?_
    refine w_cmp_gt rfl (fun h1 => ?_) (fun h1 => ?_)
    · replace h1 : 8 < r + 1 := (nI_ltI (a := 8) (b := (r + 1)) (by omega) (by omega)).mp h1
      refine w_blk 1 (pc' := 39) (ls' := [some (.ref 31), some (.int (nI r)), some (.int (nI (r + 1)))]) (sk' := [.int (nI r)]) (st' := st) (fun _ h => h) ?_
      exact w_iret rfl rfl rfl (hq r st ⟨⟨by omega, hall, h00, fun _ => Or.inl (by omega)⟩, rfl⟩)
    · replace h1 : ¬ (8 < r + 1) := fun hh => h1 ((nI_ltI (a := 8) (b := (r + 1)) (by omega) (by omega)).mpr hh)
      exact absurd (show 8 < r + 1 by omega) h1
  | succ m ih =>
    intro r hm hall h00
    refine w_blk 2 (pc' := 7) (ls' := [some (.ref 31), some (.int (nI r)), some (.int (nI (r + 1)))]) (sk' := [.int 8, .int (nI (r + 1))]) (st' := st) (fun _ h => h) ?_
    refine w_cmp_gt rfl (fun h1 => ?_) (fun h1 => ?_)
    · replace h1 : 8 < r + 1 := (nI_ltI (a := 8) (b := (r + 1)) (by omega) (by omega)).mp h1
      refine w_blk 1 (pc' := 39) (ls' := [some (.ref 31), some (.int (nI r)), some (.int (nI (r + 1)))]) (sk' := [.int (nI r)]) (st' := st) (fun _ h => h) ?_
      exact absurd h1 (by omega)
    · replace h1 : ¬ (8 < r + 1) := fun hh => h1 ((nI_ltI (a := 8) (b := (r + 1)) (by omega) (by omega)).mpr hh)
      refine w_blk 2 (pc' := 14) (ls' := [some (.ref 31), some (.int (nI r)), some (.int (nI (r + 1)))]) (sk' := [.int (st.1 31 2)]) (st' := st) (fun _ h => h) ?_
      rw [hD]
      refine w_if_le rfl (fun h2 => ?_) (fun h2 => ?_)
      · replace h2 : n 0 ≤ 0 := (nI_leI (a := (n 0)) (b := 0) (by omega) (by omega)).mp h2
        refine w_blk 1 (pc' := 39) (ls' := [some (.ref 31), some (.int (nI r)), some (.int (nI (r + 1)))]) (sk' := [.int (nI r)]) (st' := st) (fun _ h => h) ?_
        have hn0 : n 0 = 0 := by omega
        exact w_iret rfl rfl rfl (hq r st ⟨⟨by omega, hall, h00, fun hh => absurd hh (by omega)⟩, rfl⟩)
      · replace h2 : ¬ (n 0 ≤ 0) := fun hh => h2 ((nI_leI (a := (n 0)) (b := 0) (by omega) (by omega)).mpr hh)
        refine w_blk 4 (pc' := 21) (ls' := [some (.ref 31), some (.int (nI r)), some (.int (nI (r + 1)))]) (sk' := [.int 0, .int 0, .int (nI (r + 1)), .ref 31]) (st' := st) (fun _ h => h) ?_
        refine w_callV (As := [.ref 31, .int (nI (r + 1)), .int 0, .int 0]) (rest := []) rfl rfl rfl (Nat.le_of_ble_eq_true rfl) (Nat.le_of_ble_eq_true rfl) (by first | exact Or.inl ⟨rfl, rfl⟩ | exact Or.inr ⟨rfl, rfl⟩) (c_fits (d + 0) n E ob (r + 1) 0 0 st hb0 hD hO hOB (by omega) (by omega) (by omega) (by omega)) ?_
        rw [hfh]
        refine w_if_ne rfl (fun h3 => ?_) (fun h3 => ?_)
        · replace h3 := pI_ne.mp h3
          refine w_blk 3 (pc' := 35) (ls' := [some (.ref 31), some (.int (nI (r + 1))), some (.int ((nI (r + 1)) + 1))]) (sk' := []) (st' := st) (fun _ h => h) ?_
          rw [show ((nI (r + 1)) + 1) = nI ((r + 1) + 1) from nI_add (r + 1) 1]
          refine w_blk 1 (pc' := 4) (ls' := [some (.ref 31), some (.int (nI (r + 1))), some (.int (nI ((r + 1) + 1)))]) (sk' := []) (st' := st) (fun _ h => h) ?_
          exact ih (r + 1) (by omega) (fun q h8 h9 => if hq9 : q = r + 1 then (by rw [hq9]; exact h3) else hall q h8 (by omega)) (fun hh => absurd hh (by omega))
        · replace h3 := pI_eq0.mp (Decidable.not_not.mp h3)
          refine w_blk 2 (pc' := 39) (ls' := [some (.ref 31), some (.int (nI r)), some (.int (nI (r + 1)))]) (sk' := [.int (nI r)]) (st' := st) (fun _ h => h) ?_
          exact w_iret rfl rfl rfl (hq r st ⟨⟨by omega, hall, h00, fun _ => Or.inr h3⟩, rfl⟩)
