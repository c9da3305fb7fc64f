/-! HARVEST: the walks of the class, labels -/
/-- a digger's spades as bits -/
def tbs (T : EdT) (d : Nat) : Nat := orB (fun s => T d s) (fun s => s) 8
theorem tbs_bit {T : EdT} {d s : Nat} : (tbs T d).testBit s = true ↔ s < 8 ∧ T d s = true := by
  unfold tbs
  rw [orB_bit]
  exact ⟨fun ⟨k, h1, h2, h3⟩ => by subst h3; exact ⟨h1, h2⟩, fun ⟨h1, h2⟩ => ⟨s, h1, h2, rfl⟩⟩
theorem tbs_256 (T : EdT) (d : Nat) : tbs T d < 256 := by
  have h : tbs T d < 2 ^ 8 := orB_lt 8 (fun i hi => hi)
  exact h
theorem tbs_pop (T : EdT) (d : Nat) : pop (tbs T d) 8 = dD T d := by
  rw [pop_sm]
  refine sm_congr 8 (fun s hs => ?_)
  by_cases e : T d s = true
  · rw [if_pos e, if_pos (tbs_bit.mpr ⟨hs, e⟩)]
  · rw [if_neg e, if_neg (fun h => e (tbs_bit.mp h).2)]
def XOp (st : mSt) (E : EdT) : Prop := ∀ d, d < 6 → st.1 35 d = nI (tbs E d)
def XTk (st : mSt) (T : EdT) : Prop := ∀ d, d < 6 → st.1 36 d = nI (tbs T d)
def XLd (st : mSt) (T : EdT) : Prop := ∀ s, s < 8 → st.1 37 s = nI (dS T s)
def XLb (st : mSt) (n : Nat → Nat) (x : LabT) : Prop := (∀ d, d < n 0 → st.1 38 d = iI (x.1 d)) ∧ (∀ s, s < 8 → st.1 39 s = iI (x.1 (6 + s))) ∧ (∀ d, d < 6 → st.1 40 d = eF (x.2 d)) ∧ ∀ s, s < 8 → x.1 (6 + s) ≠ NOi → st.1 41 s = nI (x.2 (6 + s))
theorem XLb_S {st : mSt} {n : Nat → Nat} {x : LabT} (h : XLb st n x) (hn : n 0 ≤ 6) {s d : Nat} {z : Int} : XLb (mU (mU st.1 39 s (iI z)) 41 s (nI d), st.2) n (upI x.1 (6 + s) z, updN x.2 (6 + s) d) := by
  obtain ⟨h1, h2, h3, h4⟩ := h
  refine ⟨fun d' hd' => ?_, fun s' hs' => ?_, fun d' hd' => ?_, fun s' hs' hr' => ?_⟩
  · show st.1 38 d' = iI (upI x.1 (6 + s) z d')
    rw [upI_n (by omega)]
    exact h1 d' hd'
  · show mU st.1 39 s (iI z) 39 s' = iI (upI x.1 (6 + s) z (6 + s'))
    by_cases e : s' = s
    · subst e
      rw [upI_s]
      exact mU_at
    · rw [upI_n (by omega)]
      exact (mU_row e).trans (h2 s' hs')
  · show st.1 40 d' = eF (updN x.2 (6 + s) d d')
    rw [updN_n (by omega)]
    exact h3 d' hd'
  · show mU (mU st.1 39 s (iI z)) 41 s (nI d) 41 s' = nI (updN x.2 (6 + s) d (6 + s'))
    by_cases e : s' = s
    · subst e
      rw [updN_s]
      exact two_b
    · rw [updN_n (by omega)]
      have hr2 : upI x.1 (6 + s) z (6 + s') ≠ NOi := hr'
      rw [upI_n (by omega)] at hr2
      exact (two_d (by decide) e).trans (h4 s' hs' hr2)
theorem XLb_D {st : mSt} {n : Nat → Nat} {x : LabT} (h : XLb st n x) (hn : n 0 ≤ 6) {s d : Nat} {z : Int} (hd : d < 6) (hs : s < 8) : XLb (mU (mU st.1 38 d (iI z)) 40 d (nI s), st.2) n (upI x.1 d z, updN x.2 d (6 + s)) := by
  obtain ⟨h1, h2, h3, h4⟩ := h
  refine ⟨fun d' hd' => ?_, fun s' hs' => ?_, fun d' hd' => ?_, fun s' hs' hr' => ?_⟩
  · show mU st.1 38 d (iI z) 38 d' = iI (upI x.1 d z d')
    by_cases e : d' = d
    · subst e
      rw [upI_s]
      exact mU_at
    · rw [upI_n e]
      exact (mU_row e).trans (h1 d' hd')
  · show st.1 39 s' = iI (upI x.1 d z (6 + s'))
    rw [upI_n (by omega)]
    exact h2 s' hs'
  · show mU (mU st.1 38 d (iI z)) 40 d (nI s) 40 d' = eF (updN x.2 d (6 + s) d')
    by_cases e : d' = d
    · subst e
      rw [updN_s, eF_s hs]
      exact two_b
    · rw [updN_n e]
      exact (two_d (by decide) e).trans (h3 d' hd')
  · show st.1 41 s' = nI (updN x.2 d (6 + s) (6 + s'))
    have hr2 : upI x.1 d z (6 + s') ≠ NOi := hr'
    rw [upI_n (by omega)] at hr2
    rw [updN_n (by omega)]
    exact h4 s' hs' hr2
set_option maxRecDepth 20000 in
/-- lengthen -/
theorem c_toS (d : Nat) (n : Nat → Nat) (x : LabT) (d0 s0 : Nat) (wt : Int) (st : mSt) (hn : n 0 ≤ 6) (hL : XLb st n x) (hd : d0 < n 0) (hs : s0 < 8) (hw0 : 0 ≤ wt) (hw1 : wt ≤ 1000) (hbd : x.1 d0 = NOi ∨ (-800000 ≤ x.1 d0 ∧ x.1 d0 ≤ 800000)) (hbs : x.1 (6 + s0) = NOi ∨ (-800000 ≤ x.1 (6 + s0) ∧ x.1 (6 + s0) ≤ 800000)) : ∃ (z : Int32) (s : mSt), mMC mT (d + 2) 35 [.ref 34, .int (nI d0), .int (nI s0), .int (iI wt)] st (some (.int z)) s ∧ (z = 0 ∨ z = 1) ∧ (z = 0 → rel d0 (6 + s0) (wt) x = x) ∧ XLb s n (rel d0 (6 + s0) (wt) x) ∧ Fr [38, 39, 40, 41] st s := by
  suffices H : ∀ Q : Option Value → mSt → Prop, (∀ (z : Int32) (s : mSt), ((z = 0 ∨ z = 1) ∧ (z = 0 → rel d0 (6 + s0) (wt) x = x) ∧ XLb s n (rel d0 (6 + s0) (wt) x) ∧ Fr [38, 39, 40, 41] st s) → Q (some (.int z)) s) → mW (mMC mT (d + 1)) (0, fun _ => 0) (mAtL P_X2_lengthenToSpade) (some .boolean) Q 0 [some (.ref 34), some (.int (nI d0)), some (.int (nI s0)), some (.int (iI wt)), none] [] st by
    obtain ⟨_, _, ⟨z, s, rfl, rfl, hp⟩, hw⟩ := mW_ex (H (fun vv tt => ∃ (z : Int32) (s : mSt),  vv = some (.int z) ∧ s = tt ∧ (z = 0 ∨ z = 1) ∧ (z = 0 → rel d0 (6 + s0) (wt) x = x) ∧ XLb s n (rel d0 (6 + s0) (wt) x) ∧ Fr [38, 39, 40, 41] st s) (fun z s hp => ⟨z, s, rfl, rfl, hp⟩))
    exact ⟨z, s, mI_X2_lengthenToSpade (d := d + 1) (Nat.le_of_ble_eq_true rfl) hw, hp⟩
  intro Q hq
  have hNO : NOi = -1000000 := rfl
  refine w_blk 3 (pc' := 5) (ls' := [some (.ref 34), some (.int (nI d0)), some (.int (nI s0)), some (.int (iI wt)), none]) (sk' := [.int (nI d0), .ref 38]) (st' := st) (fun _ h => h) ?_
  refine w_callS (As := [.ref 38, .int (nI d0)]) (rest := []) rfl rfl rfl (Nat.le_of_ble_eq_true rfl) (Nat.le_of_ble_eq_true rfl) (c_cellK (d + 0) 38 6 d0 st (by omega) (by decide) rfl) ?_
  rw [hL.1 d0 (by omega)]
  refine w_blk 2 (pc' := 12) (ls' := [some (.ref 34), some (.int (nI d0)), some (.int (nI s0)), some (.int (iI wt)), some (.int (iI (x.1 d0)))]) (sk' := [.int (iI (x.1 d0))]) (st' := st) (fun _ h => h) ?_
  refine w_ldcN rfl ?_
  show mW (mMC mT (d + 1)) (0, fun _ => 0) (mAtL P_X2_lengthenToSpade) (some .boolean) Q 14 [some (.ref 34), some (.int (nI d0)), some (.int (nI s0)), some (.int (iI wt)), some (.int (iI (x.1 d0)))] [.int (iI NOi), .int (iI (x.1 d0))] st
  refine w_cmp_eq rfl (fun h1 => ?_) (fun h1 => ?_)
  · replace h1 : x.1 d0 = NOi := by exact (iI_eq (a := x.1 d0) (b := NOi) (by omega) (by omega) (by omega) (by omega)).mp h1
    refine w_blk 1 (pc' := 33) (ls' := [some (.ref 34), some (.int (nI d0)), some (.int (nI s0)), some (.int (iI wt)), some (.int (iI (x.1 d0)))]) (sk' := [.int 0]) (st' := st) (fun _ h => h) ?_
    have hno : ¬ (x.1 d0 ≠ NOi ∧ x.1 (6 + s0) < x.1 d0 + wt) := fun hh => by first | exact hh.1 h1 | (have h9 := hh.2; omega)
    have hre : rel d0 (6 + s0) (wt) x = x := if_neg hno
    exact w_iret rfl rfl rfl (hq 0 st ⟨Or.inl rfl, fun _ => hre, by rw [hre]; exact hL, Fr.rf⟩)
  · replace h1 : ¬ (x.1 d0 = NOi) := fun hh => h1 (by exact (iI_eq (a := x.1 d0) (b := NOi) (by omega) (by omega) (by omega) (by omega)).mpr hh)
    refine w_blk 3 (pc' := 21) (ls' := [some (.ref 34), some (.int (nI d0)), some (.int (nI s0)), some (.int (iI wt)), some (.int (iI (x.1 d0)))]) (sk' := [.int ((iI (x.1 d0)) + (iI wt))]) (st' := st) (fun _ h => h) ?_
    rw [show ((iI (x.1 d0)) + (iI wt)) = iI ((x.1 d0) + wt) from iI_add _ _]
    refine w_blk 3 (pc' := 26) (ls' := [some (.ref 34), some (.int (nI d0)), some (.int (nI s0)), some (.int (iI wt)), some (.int (iI (x.1 d0)))]) (sk' := [.int (nI s0), .ref 39, .int (iI ((x.1 d0) + wt))]) (st' := st) (fun _ h => h) ?_
    refine w_callS (As := [.ref 39, .int (nI s0)]) (rest := [.int (iI ((x.1 d0) + wt))]) rfl rfl rfl (Nat.le_of_ble_eq_true rfl) (Nat.le_of_ble_eq_true rfl) (c_cellK (d + 0) 39 8 s0 st (by omega) (by decide) rfl) ?_
    rw [hL.2.1 s0 (by omega)]
    refine w_cmp_gt rfl (fun h2 => ?_) (fun h2 => ?_)
    · replace h2 : x.1 (6 + s0) < (x.1 d0) + wt := by exact (iI_lt (a := x.1 (6 + s0)) (b := (x.1 d0) + wt) (by omega) (by omega) (by omega) (by omega)).mp h2
      refine w_blk 6 (pc' := 43) (ls' := [some (.ref 34), some (.int (nI d0)), some (.int (nI s0)), some (.int (iI wt)), some (.int (iI (x.1 d0)))]) (sk' := [.int ((iI (x.1 d0)) + (iI wt)), .int (nI s0), .ref 39]) (st' := st) (fun _ h => h) ?_
      rw [show ((iI (x.1 d0)) + (iI wt)) = iI ((x.1 d0) + wt) from iI_add _ _]
      refine w_callS (As := [.ref 39, .int (nI s0), .int (iI ((x.1 d0) + wt))]) (rest := []) rfl rfl rfl (Nat.le_of_ble_eq_true rfl) (Nat.le_of_ble_eq_true rfl) (c_putK (d + 0) 39 8 s0 (iI ((x.1 d0) + wt)) st (by omega) (by decide) rfl) ?_
      refine w_blk 4 (pc' := 52) (ls' := [some (.ref 34), some (.int (nI d0)), some (.int (nI s0)), some (.int (iI wt)), some (.int (iI (x.1 d0)))]) (sk' := [.int (nI d0), .int (nI s0), .ref 41]) (st' := ((mU st.1 39 s0 (iI ((x.1 d0) + wt))), st.2)) (fun _ h => h) ?_
      refine w_callS (As := [.ref 41, .int (nI s0), .int (nI d0)]) (rest := []) rfl rfl rfl (Nat.le_of_ble_eq_true rfl) (Nat.le_of_ble_eq_true rfl) (c_putK (d + 0) 41 8 s0 (nI d0) ((mU st.1 39 s0 (iI ((x.1 d0) + wt))), st.2) (by omega) (by decide) rfl) ?_
      refine w_blk 1 (pc' := 56) (ls' := [some (.ref 34), some (.int (nI d0)), some (.int (nI s0)), some (.int (iI wt)), some (.int (iI (x.1 d0)))]) (sk' := [.int 1]) (st' := ((mU (mU st.1 39 s0 (iI ((x.1 d0) + wt))) 41 s0 (nI d0)), st.2)) (fun _ h => h) ?_
      have hyes : x.1 d0 ≠ NOi ∧ x.1 (6 + s0) < x.1 d0 + wt := ⟨h1, by omega⟩
      have hre : rel d0 (6 + s0) (wt) x = (upI x.1 (6 + s0) (x.1 d0 + wt), updN x.2 (6 + s0) d0) := if_pos hyes
      exact w_iret rfl rfl rfl (hq 1 _ ⟨Or.inr rfl, fun h9 => absurd h9 (by decide), by rw [hre]; exact XLb_S hL hn, Fr.trans (Fr.trans Fr.rf (Fr.mU (by decide))) (Fr.mU (by decide))⟩)
    · replace h2 : ¬ (x.1 (6 + s0) < (x.1 d0) + wt) := fun hh => h2 (by exact (iI_lt (a := x.1 (6 + s0)) (b := (x.1 d0) + wt) (by omega) (by omega) (by omega) (by omega)).mpr hh)
      refine w_blk 1 (pc' := 33) (ls' := [some (.ref 34), some (.int (nI d0)), some (.int (nI s0)), some (.int (iI wt)), some (.int (iI (x.1 d0)))]) (sk' := [.int 0]) (st' := st) (fun _ h => h) ?_
      have hno : ¬ (x.1 d0 ≠ NOi ∧ x.1 (6 + s0) < x.1 d0 + wt) := fun hh => by first | exact hh.1 h1 | (have h9 := hh.2; omega)
      have hre : rel d0 (6 + s0) (wt) x = x := if_neg hno
      exact w_iret rfl rfl rfl (hq 0 st ⟨Or.inl rfl, fun _ => hre, by rw [hre]; exact hL, Fr.rf⟩)
set_option maxRecDepth 20000 in
/-- lengthen -/
theorem c_toD (d : Nat) (n : Nat → Nat) (x : LabT) (d0 s0 : Nat) (wt : Int) (st : mSt) (hn : n 0 ≤ 6) (hL : XLb st n x) (hd : d0 < n 0) (hs : s0 < 8) (hw0 : 0 ≤ wt) (hw1 : wt ≤ 1000) (hbd : x.1 d0 = NOi ∨ (-800000 ≤ x.1 d0 ∧ x.1 d0 ≤ 800000)) (hbs : x.1 (6 + s0) = NOi ∨ (-800000 ≤ x.1 (6 + s0) ∧ x.1 (6 + s0) ≤ 800000)) : ∃ (z : Int32) (s : mSt), mMC mT (d + 2) 36 [.ref 34, .int (nI d0), .int (nI s0), .int (iI wt)] st (some (.int z)) s ∧ (z = 0 ∨ z = 1) ∧ (z = 0 → rel (6 + s0) d0 (- wt) x = x) ∧ XLb s n (rel (6 + s0) d0 (- wt) x) ∧ Fr [38, 39, 40, 41] st s := by
  suffices H : ∀ Q : Option Value → mSt → Prop, (∀ (z : Int32) (s : mSt), ((z = 0 ∨ z = 1) ∧ (z = 0 → rel (6 + s0) d0 (- wt) x = x) ∧ XLb s n (rel (6 + s0) d0 (- wt) x) ∧ Fr [38, 39, 40, 41] st s) → Q (some (.int z)) s) → mW (mMC mT (d + 1)) (0, fun _ => 0) (mAtL P_X2_lengthenToDigger) (some .boolean) Q 0 [some (.ref 34), some (.int (nI d0)), some (.int (nI s0)), some (.int (iI wt)), none] [] st by
    obtain ⟨_, _, ⟨z, s, rfl, rfl, hp⟩, hw⟩ := mW_ex (H (fun vv tt => ∃ (z : Int32) (s : mSt),  vv = some (.int z) ∧ s = tt ∧ (z = 0 ∨ z = 1) ∧ (z = 0 → rel (6 + s0) d0 (- wt) x = x) ∧ XLb s n (rel (6 + s0) d0 (- wt) x) ∧ Fr [38, 39, 40, 41] st s) (fun z s hp => ⟨z, s, rfl, rfl, hp⟩))
    exact ⟨z, s, mI_X2_lengthenToDigger (d := d + 1) (Nat.le_of_ble_eq_true rfl) hw, hp⟩
  intro Q hq
  have hNO : NOi = -1000000 := rfl
  refine w_blk 3 (pc' := 5) (ls' := [some (.ref 34), some (.int (nI d0)), some (.int (nI s0)), some (.int (iI wt)), none]) (sk' := [.int (nI s0), .ref 39]) (st' := st) (fun _ h => h) ?_
  refine w_callS (As := [.ref 39, .int (nI s0)]) (rest := []) rfl rfl rfl (Nat.le_of_ble_eq_true rfl) (Nat.le_of_ble_eq_true rfl) (c_cellK (d + 0) 39 8 s0 st (by omega) (by decide) rfl) ?_
  rw [hL.2.1 s0 (by omega)]
  refine w_blk 2 (pc' := 12) (ls' := [some (.ref 34), some (.int (nI d0)), some (.int (nI s0)), some (.int (iI wt)), some (.int (iI (x.1 (6 + s0))))]) (sk' := [.int (iI (x.1 (6 + s0)))]) (st' := st) (fun _ h => h) ?_
  refine w_ldcN rfl ?_
  show mW (mMC mT (d + 1)) (0, fun _ => 0) (mAtL P_X2_lengthenToDigger) (some .boolean) Q 14 [some (.ref 34), some (.int (nI d0)), some (.int (nI s0)), some (.int (iI wt)), some (.int (iI (x.1 (6 + s0))))] [.int (iI NOi), .int (iI (x.1 (6 + s0)))] st
  refine w_cmp_eq rfl (fun h1 => ?_) (fun h1 => ?_)
  · replace h1 : x.1 (6 + s0) = NOi := by exact (iI_eq (a := x.1 (6 + s0)) (b := NOi) (by omega) (by omega) (by omega) (by omega)).mp h1
    refine w_blk 1 (pc' := 33) (ls' := [some (.ref 34), some (.int (nI d0)), some (.int (nI s0)), some (.int (iI wt)), some (.int (iI (x.1 (6 + s0))))]) (sk' := [.int 0]) (st' := st) (fun _ h => h) ?_
    have hno : ¬ (x.1 (6 + s0) ≠ NOi ∧ x.1 d0 < x.1 (6 + s0) + (- wt)) := fun hh => by first | exact hh.1 h1 | (have h9 := hh.2; omega)
    have hre : rel (6 + s0) d0 (- wt) x = x := if_neg hno
    exact w_iret rfl rfl rfl (hq 0 st ⟨Or.inl rfl, fun _ => hre, by rw [hre]; exact hL, Fr.rf⟩)
  · replace h1 : ¬ (x.1 (6 + s0) = NOi) := fun hh => h1 (by exact (iI_eq (a := x.1 (6 + s0)) (b := NOi) (by omega) (by omega) (by omega) (by omega)).mpr hh)
    refine w_blk 3 (pc' := 21) (ls' := [some (.ref 34), some (.int (nI d0)), some (.int (nI s0)), some (.int (iI wt)), some (.int (iI (x.1 (6 + s0))))]) (sk' := [.int ((iI (x.1 (6 + s0))) - (iI wt))]) (st' := st) (fun _ h => h) ?_
    rw [show ((iI (x.1 (6 + s0))) - (iI wt)) = iI ((x.1 (6 + s0)) - wt) from iI_sub _ _]
    refine w_blk 3 (pc' := 26) (ls' := [some (.ref 34), some (.int (nI d0)), some (.int (nI s0)), some (.int (iI wt)), some (.int (iI (x.1 (6 + s0))))]) (sk' := [.int (nI d0), .ref 38, .int (iI ((x.1 (6 + s0)) - wt))]) (st' := st) (fun _ h => h) ?_
    refine w_callS (As := [.ref 38, .int (nI d0)]) (rest := [.int (iI ((x.1 (6 + s0)) - wt))]) rfl rfl rfl (Nat.le_of_ble_eq_true rfl) (Nat.le_of_ble_eq_true rfl) (c_cellK (d + 0) 38 6 d0 st (by omega) (by decide) rfl) ?_
    rw [hL.1 d0 (by omega)]
    refine w_cmp_gt rfl (fun h2 => ?_) (fun h2 => ?_)
    · replace h2 : x.1 d0 < (x.1 (6 + s0)) - wt := by exact (iI_lt (a := x.1 d0) (b := (x.1 (6 + s0)) - wt) (by omega) (by omega) (by omega) (by omega)).mp h2
      refine w_blk 6 (pc' := 43) (ls' := [some (.ref 34), some (.int (nI d0)), some (.int (nI s0)), some (.int (iI wt)), some (.int (iI (x.1 (6 + s0))))]) (sk' := [.int ((iI (x.1 (6 + s0))) - (iI wt)), .int (nI d0), .ref 38]) (st' := st) (fun _ h => h) ?_
      rw [show ((iI (x.1 (6 + s0))) - (iI wt)) = iI ((x.1 (6 + s0)) - wt) from iI_sub _ _]
      refine w_callS (As := [.ref 38, .int (nI d0), .int (iI ((x.1 (6 + s0)) - wt))]) (rest := []) rfl rfl rfl (Nat.le_of_ble_eq_true rfl) (Nat.le_of_ble_eq_true rfl) (c_putK (d + 0) 38 6 d0 (iI ((x.1 (6 + s0)) - wt)) st (by omega) (by decide) rfl) ?_
      refine w_blk 4 (pc' := 52) (ls' := [some (.ref 34), some (.int (nI d0)), some (.int (nI s0)), some (.int (iI wt)), some (.int (iI (x.1 (6 + s0))))]) (sk' := [.int (nI s0), .int (nI d0), .ref 40]) (st' := ((mU st.1 38 d0 (iI ((x.1 (6 + s0)) - wt))), st.2)) (fun _ h => h) ?_
      refine w_callS (As := [.ref 40, .int (nI d0), .int (nI s0)]) (rest := []) rfl rfl rfl (Nat.le_of_ble_eq_true rfl) (Nat.le_of_ble_eq_true rfl) (c_putK (d + 0) 40 6 d0 (nI s0) ((mU st.1 38 d0 (iI ((x.1 (6 + s0)) - wt))), st.2) (by omega) (by decide) rfl) ?_
      refine w_blk 1 (pc' := 56) (ls' := [some (.ref 34), some (.int (nI d0)), some (.int (nI s0)), some (.int (iI wt)), some (.int (iI (x.1 (6 + s0))))]) (sk' := [.int 1]) (st' := ((mU (mU st.1 38 d0 (iI ((x.1 (6 + s0)) - wt))) 40 d0 (nI s0)), st.2)) (fun _ h => h) ?_
      have hyes : x.1 (6 + s0) ≠ NOi ∧ x.1 d0 < x.1 (6 + s0) + (- wt) := ⟨h1, by omega⟩
      have hre : rel (6 + s0) d0 (- wt) x = (upI x.1 d0 (x.1 (6 + s0) + (- wt)), updN x.2 d0 (6 + s0)) := if_pos hyes
      exact w_iret rfl rfl rfl (hq 1 _ ⟨Or.inr rfl, fun h9 => absurd h9 (by decide), by rw [hre]; exact (by rw [← Int.sub_eq_add_neg]; exact XLb_D hL hn (by omega) hs), Fr.trans (Fr.trans Fr.rf (Fr.mU (by decide))) (Fr.mU (by decide))⟩)
    · replace h2 : ¬ (x.1 d0 < (x.1 (6 + s0)) - wt) := fun hh => h2 (by exact (iI_lt (a := x.1 d0) (b := (x.1 (6 + s0)) - wt) (by omega) (by omega) (by omega) (by omega)).mpr hh)
      refine w_blk 1 (pc' := 33) (ls' := [some (.ref 34), some (.int (nI d0)), some (.int (nI s0)), some (.int (iI wt)), some (.int (iI (x.1 (6 + s0))))]) (sk' := [.int 0]) (st' := st) (fun _ h => h) ?_
      have hno : ¬ (x.1 (6 + s0) ≠ NOi ∧ x.1 d0 < x.1 (6 + s0) + (- wt)) := fun hh => by first | exact hh.1 h1 | (have h9 := hh.2; omega)
      have hre : rel (6 + s0) d0 (- wt) x = x := if_neg hno
      exact w_iret rfl rfl rfl (hq 0 st ⟨Or.inl rfl, fun _ => hre, by rw [hre]; exact hL, Fr.rf⟩)
set_option maxRecDepth 20000 in
/-- lengthenBy(crew, d) -/
theorem c_lenBy_5 (d : Nat) (n : Nat → Nat) (c : Nat → Nat → Nat) (E T : EdT) (y : LabT) (d0 : Nat) (st : mSt) (hX : X5 st n c) (hB : CB n c) (hEn : ∀ d s, d < 6 → s < 8 → E d s = true → d < n 0 ∧ s < n 1) (hTE : ∀ d s, d < 6 → s < 8 → T d s = true → E d s = true) (hO : XOp st E) (hT : XTk st T) (hd : d0 < 6) (hL : XLb st n (rk (fA T E (wF n c false)) y (8 * d0))) (hlb : ∀ k v, k ≤ 48 → (rk (fA T E (wF n c false)) y k).1 v = NOi ∨ (-800000 ≤ (rk (fA T E (wF n c false)) y k).1 v ∧ (rk (fA T E (wF n c false)) y k).1 v ≤ 800000)) : ∃ (z : Int32) (s : mSt), mMC mT (d + 3) 34 [.ref 34, .ref 5, .int (nI d0)] st (some (.int z)) s ∧ (z = 0 ∨ z = 1) ∧ (z = 0 → rk (fA T E (wF n c false)) y (8 * (d0 + 1)) = rk (fA T E (wF n c false)) y (8 * d0)) ∧ XLb s n (rk (fA T E (wF n c false)) y (8 * (d0 + 1))) ∧ Fr [38, 39, 40, 41] st s := by
  suffices H : ∀ Q : Option Value → mSt → Prop, (∀ (z : Int32) (s : mSt), ((z = 0 ∨ z = 1) ∧ (z = 0 → rk (fA T E (wF n c false)) y (8 * (d0 + 1)) = rk (fA T E (wF n c false)) y (8 * d0)) ∧ XLb s n (rk (fA T E (wF n c false)) y (8 * (d0 + 1))) ∧ Fr [38, 39, 40, 41] st s) → Q (some (.int z)) s) → mW (mMC mT (d + 2)) (0, fun _ => 0) (mAtL P_X2_lengthenBy) (some .boolean) Q 0 [some (.ref 34), some (.ref 5), some (.int (nI d0)), none, none] [] st by
    obtain ⟨_, _, ⟨z, s, rfl, rfl, hp⟩, hw⟩ := mW_ex (H (fun vv tt => ∃ (z : Int32) (s : mSt),  vv = some (.int z) ∧ s = tt ∧ (z = 0 ∨ z = 1) ∧ (z = 0 → rk (fA T E (wF n c false)) y (8 * (d0 + 1)) = rk (fA T E (wF n c false)) y (8 * d0)) ∧ XLb s n (rk (fA T E (wF n c false)) y (8 * (d0 + 1))) ∧ Fr [38, 39, 40, 41] st s) (fun z s hp => ⟨z, s, rfl, rfl, hp⟩))
    exact ⟨z, s, mI_X2_lengthenBy (d := d + 2) (Nat.le_of_ble_eq_true rfl) hw, hp⟩
  intro Q hq
  obtain ⟨hb0, hb1, hb2, hbd, hbs, hby⟩ := id hB
  have hww := wF_WB hB false
  refine w_blk 4 (pc' := 5) (ls' := [some (.ref 34), some (.ref 5), some (.int (nI d0)), some (.int 0), some (.int 0)]) (sk' := []) (st' := st) (fun _ h => h) ?_
  suffices key : ∀ (m s0 : Nat) (z : Int32) (s1 : mSt), s0 + m = 8 → (z = 0 ∨ z = 1) → (z = 0 → rk (fA T E (wF n c false)) y (8 * d0 + s0) = rk (fA T E (wF n c false)) y (8 * d0)) → XLb s1 n (rk (fA T E (wF n c false)) y (8 * d0 + s0)) → Fr [38, 39, 40, 41] st s1 → mW (mMC mT (d + 2)) (0, fun _ => 0) (mAtL P_X2_lengthenBy) (some .boolean) Q 5 [some (.ref 34), some (.ref 5), some (.int (nI d0)), some (.int z), some (.int (nI s0))] [] s1 from key 8 0 0 st (by omega) (Or.inl rfl) (fun _ => rfl) hL Fr.rf
  intro m
  induction m with
  | zero =>
    intro s0 z s1 hs hz hsame hL1 hf
    obtain rfl : s0 = 8 := by omega
    refine w_blk 2 (pc' := 9) (ls' := [some (.ref 34), some (.ref 5), some (.int (nI d0)), some (.int z), some (.int (nI 8))]) (sk' := [.int 8, .int (nI 8)]) (st' := s1) (fun _ h => h) ?_
    refine w_cmp_ge rfl (fun _ => ?_) (fun hno => absurd (Int32.le_refl _) hno)
    refine w_blk 1 (pc' := 88) (ls' := [some (.ref 34), some (.ref 5), some (.int (nI d0)), some (.int z), some (.int (nI 8))]) (sk' := [.int z]) (st' := s1) (fun _ h => h) ?_
    exact w_iret rfl rfl (by rcases hz with rfl | rfl <;> rfl) (hq z s1 ⟨hz, hsame, hL1, hf⟩)
  | succ m ih =>
    intro s0 z s1 hs hz hsame hL1 hf
    have hs8 : s0 < 8 := by omega
    have hX1 : X5 s1 n c := X5_fr hf (by decide) hX
    have hO1 : XOp s1 E := fun d hd => by rw [hf.1 35 (by decide)]; exact hO d hd
    have hT1 : XTk s1 T := fun d hd => by rw [hf.1 36 (by decide)]; exact hT d hd
    have ht256 := tbs_256 T d0
    have he256 := tbs_256 E d0
    have e1 : (8 * d0 + s0) / 8 = d0 := by omega
    have e2 : (8 * d0 + s0) % 8 = s0 := by omega
    have hrt : T d0 s0 = true → rk (fA T E (wF n c false)) y (8 * d0 + s0 + 1) = rel (6 + s0) d0 (- wF n c false d0 s0) (rk (fA T E (wF n c false)) y (8 * d0 + s0)) := fun h9 => by have h8 := rk_t (E := E) (w := wF n c false) (s := y) (k := 8 * d0 + s0) (T := T) (by rw [e1, e2]; exact h9); rw [e1, e2] at h8; exact h8
    have hre : ¬ T d0 s0 = true → E d0 s0 = true → rk (fA T E (wF n c false)) y (8 * d0 + s0 + 1) = rel d0 (6 + s0) (wF n c false d0 s0) (rk (fA T E (wF n c false)) y (8 * d0 + s0)) := fun h9 h7 => by have h8 := rk_e (E := E) (w := wF n c false) (s := y) (k := 8 * d0 + s0) (T := T) (by rw [e1, e2]; exact h9) (by rw [e1, e2]; exact h7); rw [e1, e2] at h8; exact h8
    have hrn : ¬ T d0 s0 = true → ¬ E d0 s0 = true → rk (fA T E (wF n c false)) y (8 * d0 + s0 + 1) = rk (fA T E (wF n c false)) y (8 * d0 + s0) := fun h9 h7 => rk_n (by rw [e1, e2]; exact h9) (by rw [e1, e2]; exact h7)
    have hl1 := hlb (8 * d0 + s0) d0 (by omega)
    have hl2 := hlb (8 * d0 + s0) (6 + s0) (by omega)
    have hwb := hww d0 s0
    refine w_blk 2 (pc' := 9) (ls' := [some (.ref 34), some (.ref 5), some (.int (nI d0)), some (.int z), some (.int (nI s0))]) (sk' := [.int 8, .int (nI s0)]) (st' := s1) (fun _ h => h) ?_
    refine w_cmp_ge rfl (fun hno => absurd hno (nI_ge (a := s0) (b := 8) hs8 (by omega))) (fun _ => ?_)
    refine w_blk 3 (pc' := 17) (ls' := [some (.ref 34), some (.ref 5), some (.int (nI d0)), some (.int z), some (.int (nI s0))]) (sk' := [.int (nI d0), .ref 36]) (st' := s1) (fun _ h => h) ?_
    refine w_callS (As := [.ref 36, .int (nI d0)]) (rest := []) rfl rfl rfl (Nat.le_of_ble_eq_true rfl) (Nat.le_of_ble_eq_true rfl) (c_cellK (d + 1) 36 6 d0 s1 (by omega) (by decide) rfl) ?_
    rw [hT1 d0 (by omega)]
    refine w_blk 1 (pc' := 22) (ls' := [some (.ref 34), some (.ref 5), some (.int (nI d0)), some (.int z), some (.int (nI s0))]) (sk' := [.int (nI s0), .int (nI (tbs T d0))]) (st' := s1) (fun _ h => h) ?_
    refine w_callS (As := [.int (nI (tbs T d0)), .int (nI s0)]) (rest := []) rfl rfl rfl (Nat.le_of_ble_eq_true rfl) (Nat.le_of_ble_eq_true rfl) (c_hasBit (d + 1) (nI (tbs T d0)) (nI s0) s1) ?_
    rw [show (pI (bitP (nI (tbs T d0)) (nI s0))) = pI (Nat.testBit (tbs T d0) s0 = true) from pI_cong (bitP_nI (n := tbs T d0) (k := s0) (by omega) (by omega))]
    refine w_if_eq rfl (fun h1 => ?_) (fun h1 => ?_)
    · replace h1 := pI_eq0.mp h1
      have hts : ¬ T d0 s0 = true := fun e => h1 (tbs_bit.mpr ⟨hs8, e⟩)
      refine w_blk 3 (pc' := 53) (ls' := [some (.ref 34), some (.ref 5), some (.int (nI d0)), some (.int z), some (.int (nI s0))]) (sk' := [.int (nI d0), .ref 35]) (st' := s1) (fun _ h => h) ?_
      refine w_callS (As := [.ref 35, .int (nI d0)]) (rest := []) rfl rfl rfl (Nat.le_of_ble_eq_true rfl) (Nat.le_of_ble_eq_true rfl) (c_cellK (d + 1) 35 6 d0 s1 (by omega) (by decide) rfl) ?_
      rw [hO1 d0 (by omega)]
      refine w_blk 1 (pc' := 58) (ls' := [some (.ref 34), some (.ref 5), some (.int (nI d0)), some (.int z), some (.int (nI s0))]) (sk' := [.int (nI s0), .int (nI (tbs E d0))]) (st' := s1) (fun _ h => h) ?_
      refine w_callS (As := [.int (nI (tbs E d0)), .int (nI s0)]) (rest := []) rfl rfl rfl (Nat.le_of_ble_eq_true rfl) (Nat.le_of_ble_eq_true rfl) (c_hasBit (d + 1) (nI (tbs E d0)) (nI s0) s1) ?_
      rw [show (pI (bitP (nI (tbs E d0)) (nI s0))) = pI (Nat.testBit (tbs E d0) s0 = true) from pI_cong (bitP_nI (n := tbs E d0) (k := s0) (by omega) (by omega))]
      refine w_if_eq rfl (fun h2 => ?_) (fun h2 => ?_)
      · replace h2 := pI_eq0.mp h2
        have hes : ¬ E d0 s0 = true := fun e => h2 (tbs_bit.mpr ⟨hs8, e⟩)
        refine w_blk 1 (pc' := 84) (ls' := [some (.ref 34), some (.ref 5), some (.int (nI d0)), some (.int z), some (.int ((nI s0) + 1))]) (sk' := []) (st' := s1) (fun _ h => h) ?_
        rw [show ((nI s0) + 1) = nI (s0 + 1) from nI_add s0 1]
        refine w_blk 1 (pc' := 5) (ls' := [some (.ref 34), some (.ref 5), some (.int (nI d0)), some (.int z), some (.int (nI (s0 + 1)))]) (sk' := []) (st' := s1) (fun _ h => h) ?_
        exact ih (s0 + 1) z s1 (by omega) hz (fun h9 => (hrn hts hes).trans (hsame h9)) (by show XLb s1 n (rk (fA T E (wF n c false)) y (8 * d0 + s0 + 1)); rw [hrn hts hes]; exact hL1) hf
      · replace h2 := pI_ne.mp h2
        have hes := (tbs_bit.mp h2).2
        obtain ⟨hdn, hsn⟩ := hEn d0 s0 hd hs8 hes
        have hwv : nI (c 0 d0 * c 3 s0) = iI (wF n c false d0 s0) := by
          have e9 : wF n c false d0 s0 = ((c 0 d0 * c 3 s0 : Nat) : Int) := by
            unfold wF
            rw [if_neg Bool.false_ne_true, if_pos (show d0 < n 0 ∧ s0 < n 1 from ⟨hdn, hsn⟩)]
          rw [e9]
          rfl
        refine w_blk 7 (pc' := 73) (ls' := [some (.ref 34), some (.ref 5), some (.int (nI d0)), some (.int z), some (.int (nI s0))]) (sk' := [.int (nI s0), .int (nI d0), .ref 5, .int (nI s0), .int (nI d0), .ref 34, .int z]) (st' := s1) (fun _ h => h) ?_
        have hpr := c_productK_5 (d + 0) n c d0 s0 s1 hX1 hB hdn hsn
        rw [hwv] at hpr
        refine w_callV (As := [.ref 5, .int (nI d0), .int (nI s0)]) (rest := [.int (nI s0), .int (nI d0), .ref 34, .int z]) rfl rfl rfl (Nat.le_of_ble_eq_true rfl) (Nat.le_of_ble_eq_true rfl) (by first | exact Or.inl ⟨rfl, rfl⟩ | exact Or.inr ⟨rfl, rfl⟩) hpr ?_
        obtain ⟨zz, s2, hc2, hz2, hs2, hL2, hf2⟩ := c_toS (d + 0) n (rk (fA T E (wF n c false)) y (8 * d0 + s0)) d0 s0 (wF n c false d0 s0) s1 hb0 hL1 hdn hs8 hwb.1 hwb.2 hl1 hl2
        rw [← hre hts hes] at hL2 hs2
        refine w_callV (As := [.ref 34, .int (nI d0), .int (nI s0), .int (iI (wF n c false d0 s0))]) (rest := [.int z]) rfl rfl rfl (Nat.le_of_ble_eq_true rfl) (Nat.le_of_ble_eq_true rfl) (by first | exact Or.inl ⟨rfl, rfl⟩ | exact Or.inr ⟨rfl, rfl⟩) hc2 ?_
        refine w_blk 3 (pc' := 84) (ls' := [some (.ref 34), some (.ref 5), some (.int (nI d0)), some (.int (z ||| zz)), some (.int ((nI s0) + 1))]) (sk' := []) (st' := s2) (fun _ h => h) ?_
        rw [show ((nI s0) + 1) = nI (s0 + 1) from nI_add s0 1]
        refine w_blk 1 (pc' := 5) (ls' := [some (.ref 34), some (.ref 5), some (.int (nI d0)), some (.int (z ||| zz)), some (.int (nI (s0 + 1)))]) (sk' := []) (st' := s2) (fun _ h => h) ?_
        have hor : (z ||| zz = 0 ∨ z ||| zz = 1) ∧ (z ||| zz = 0 → z = 0 ∧ zz = 0) := by rcases hz with rfl | rfl <;> rcases hz2 with rfl | rfl <;> decide
        exact ih (s0 + 1) (z ||| zz) s2 (by omega) hor.1 (fun h9 => (hs2 (hor.2 h9).2).trans (hsame (hor.2 h9).1)) hL2 (Fr.trans hf hf2)
    · replace h1 := pI_ne.mp h1
      have hts := (tbs_bit.mp h1).2
      obtain ⟨hdn, hsn⟩ := hEn d0 s0 hd hs8 (hTE d0 s0 hd hs8 hts)
      have hwv : nI (c 0 d0 * c 3 s0) = iI (wF n c false d0 s0) := by
        have e9 : wF n c false d0 s0 = ((c 0 d0 * c 3 s0 : Nat) : Int) := by
          unfold wF
          rw [if_neg Bool.false_ne_true, if_pos (show d0 < n 0 ∧ s0 < n 1 from ⟨hdn, hsn⟩)]
        rw [e9]
        rfl
      refine w_blk 7 (pc' := 37) (ls' := [some (.ref 34), some (.ref 5), some (.int (nI d0)), some (.int z), some (.int (nI s0))]) (sk' := [.int (nI s0), .int (nI d0), .ref 5, .int (nI s0), .int (nI d0), .ref 34, .int z]) (st' := s1) (fun _ h => h) ?_
      have hpr := c_productK_5 (d + 0) n c d0 s0 s1 hX1 hB hdn hsn
      rw [hwv] at hpr
      refine w_callV (As := [.ref 5, .int (nI d0), .int (nI s0)]) (rest := [.int (nI s0), .int (nI d0), .ref 34, .int z]) rfl rfl rfl (Nat.le_of_ble_eq_true rfl) (Nat.le_of_ble_eq_true rfl) (by first | exact Or.inl ⟨rfl, rfl⟩ | exact Or.inr ⟨rfl, rfl⟩) hpr ?_
      obtain ⟨zz, s2, hc2, hz2, hs2, hL2, hf2⟩ := c_toD (d + 0) n (rk (fA T E (wF n c false)) y (8 * d0 + s0)) d0 s0 (wF n c false d0 s0) s1 hb0 hL1 hdn hs8 hwb.1 hwb.2 hl1 hl2
      rw [← hrt hts] at hL2 hs2
      refine w_callV (As := [.ref 34, .int (nI d0), .int (nI s0), .int (iI (wF n c false d0 s0))]) (rest := [.int z]) rfl rfl rfl (Nat.le_of_ble_eq_true rfl) (Nat.le_of_ble_eq_true rfl) (by first | exact Or.inl ⟨rfl, rfl⟩ | exact Or.inr ⟨rfl, rfl⟩) hc2 ?_
      refine w_blk 4 (pc' := 84) (ls' := [some (.ref 34), some (.ref 5), some (.int (nI d0)), some (.int (z ||| zz)), some (.int ((nI s0) + 1))]) (sk' := []) (st' := s2) (fun _ h => h) ?_
      rw [show ((nI s0) + 1) = nI (s0 + 1) from nI_add s0 1]
      refine w_blk 1 (pc' := 5) (ls' := [some (.ref 34), some (.ref 5), some (.int (nI d0)), some (.int (z ||| zz)), some (.int (nI (s0 + 1)))]) (sk' := []) (st' := s2) (fun _ h => h) ?_
      have hor : (z ||| zz = 0 ∨ z ||| zz = 1) ∧ (z ||| zz = 0 → z = 0 ∧ zz = 0) := by rcases hz with rfl | rfl <;> rcases hz2 with rfl | rfl <;> decide
      exact ih (s0 + 1) (z ||| zz) s2 (by omega) hor.1 (fun h9 => (hs2 (hor.2 h9).2).trans (hsame (hor.2 h9).1)) hL2 (Fr.trans hf hf2)
set_option maxRecDepth 20000 in
/-- lengthenBy(crew, d) -/
theorem c_lenBy_13 (d : Nat) (n : Nat → Nat) (c : Nat → Nat → Nat) (E T : EdT) (y : LabT) (d0 : Nat) (st : mSt) (hX : X13 st n c) (hB : CB n c) (hEn : ∀ d s, d < 6 → s < 8 → E d s = true → d < n 0 ∧ s < n 1) (hTE : ∀ d s, d < 6 → s < 8 → T d s = true → E d s = true) (hO : XOp st E) (hT : XTk st T) (hd : d0 < 6) (hL : XLb st n (rk (fA T E (wF n c false)) y (8 * d0))) (hlb : ∀ k v, k ≤ 48 → (rk (fA T E (wF n c false)) y k).1 v = NOi ∨ (-800000 ≤ (rk (fA T E (wF n c false)) y k).1 v ∧ (rk (fA T E (wF n c false)) y k).1 v ≤ 800000)) : ∃ (z : Int32) (s : mSt), mMC mT (d + 3) 34 [.ref 34, .ref 13, .int (nI d0)] st (some (.int z)) s ∧ (z = 0 ∨ z = 1) ∧ (z = 0 → rk (fA T E (wF n c false)) y (8 * (d0 + 1)) = rk (fA T E (wF n c false)) y (8 * d0)) ∧ XLb s n (rk (fA T E (wF n c false)) y (8 * (d0 + 1))) ∧ Fr [38, 39, 40, 41] st s := by
  suffices H : ∀ Q : Option Value → mSt → Prop, (∀ (z : Int32) (s : mSt), ((z = 0 ∨ z = 1) ∧ (z = 0 → rk (fA T E (wF n c false)) y (8 * (d0 + 1)) = rk (fA T E (wF n c false)) y (8 * d0)) ∧ XLb s n (rk (fA T E (wF n c false)) y (8 * (d0 + 1))) ∧ Fr [38, 39, 40, 41] st s) → Q (some (.int z)) s) → mW (mMC mT (d + 2)) (0, fun _ => 0) (mAtL P_X2_lengthenBy) (some .boolean) Q 0 [some (.ref 34), some (.ref 13), some (.int (nI d0)), none, none] [] st by
    obtain ⟨_, _, ⟨z, s, rfl, rfl, hp⟩, hw⟩ := mW_ex (H (fun vv tt => ∃ (z : Int32) (s : mSt),  vv = some (.int z) ∧ s = tt ∧ (z = 0 ∨ z = 1) ∧ (z = 0 → rk (fA T E (wF n c false)) y (8 * (d0 + 1)) = rk (fA T E (wF n c false)) y (8 * d0)) ∧ XLb s n (rk (fA T E (wF n c false)) y (8 * (d0 + 1))) ∧ Fr [38, 39, 40, 41] st s) (fun z s hp => ⟨z, s, rfl, rfl, hp⟩))
    exact ⟨z, s, mI_X2_lengthenBy (d := d + 2) (Nat.le_of_ble_eq_true rfl) hw, hp⟩
  intro Q hq
  obtain ⟨hb0, hb1, hb2, hbd, hbs, hby⟩ := id hB
  have hww := wF_WB hB false
  refine w_blk 4 (pc' := 5) (ls' := [some (.ref 34), some (.ref 13), some (.int (nI d0)), some (.int 0), some (.int 0)]) (sk' := []) (st' := st) (fun _ h => h) ?_
  suffices key : ∀ (m s0 : Nat) (z : Int32) (s1 : mSt), s0 + m = 8 → (z = 0 ∨ z = 1) → (z = 0 → rk (fA T E (wF n c false)) y (8 * d0 + s0) = rk (fA T E (wF n c false)) y (8 * d0)) → XLb s1 n (rk (fA T E (wF n c false)) y (8 * d0 + s0)) → Fr [38, 39, 40, 41] st s1 → mW (mMC mT (d + 2)) (0, fun _ => 0) (mAtL P_X2_lengthenBy) (some .boolean) Q 5 [some (.ref 34), some (.ref 13), some (.int (nI d0)), some (.int z), some (.int (nI s0))] [] s1 from key 8 0 0 st (by omega) (Or.inl rfl) (fun _ => rfl) hL Fr.rf
  intro m
  induction m with
  | zero =>
    intro s0 z s1 hs hz hsame hL1 hf
    obtain rfl : s0 = 8 := by omega
    refine w_blk 2 (pc' := 9) (ls' := [some (.ref 34), some (.ref 13), some (.int (nI d0)), some (.int z), some (.int (nI 8))]) (sk' := [.int 8, .int (nI 8)]) (st' := s1) (fun _ h => h) ?_
    refine w_cmp_ge rfl (fun _ => ?_) (fun hno => absurd (Int32.le_refl _) hno)
    refine w_blk 1 (pc' := 88) (ls' := [some (.ref 34), some (.ref 13), some (.int (nI d0)), some (.int z), some (.int (nI 8))]) (sk' := [.int z]) (st' := s1) (fun _ h => h) ?_
    exact w_iret rfl rfl (by rcases hz with rfl | rfl <;> rfl) (hq z s1 ⟨hz, hsame, hL1, hf⟩)
  | succ m ih =>
    intro s0 z s1 hs hz hsame hL1 hf
    have hs8 : s0 < 8 := by omega
    have hX1 : X13 s1 n c := X13_fr hf (by decide) hX
    have hO1 : XOp s1 E := fun d hd => by rw [hf.1 35 (by decide)]; exact hO d hd
    have hT1 : XTk s1 T := fun d hd => by rw [hf.1 36 (by decide)]; exact hT d hd
    have ht256 := tbs_256 T d0
    have he256 := tbs_256 E d0
    have e1 : (8 * d0 + s0) / 8 = d0 := by omega
    have e2 : (8 * d0 + s0) % 8 = s0 := by omega
    have hrt : T d0 s0 = true → rk (fA T E (wF n c false)) y (8 * d0 + s0 + 1) = rel (6 + s0) d0 (- wF n c false d0 s0) (rk (fA T E (wF n c false)) y (8 * d0 + s0)) := fun h9 => by have h8 := rk_t (E := E) (w := wF n c false) (s := y) (k := 8 * d0 + s0) (T := T) (by rw [e1, e2]; exact h9); rw [e1, e2] at h8; exact h8
    have hre : ¬ T d0 s0 = true → E d0 s0 = true → rk (fA T E (wF n c false)) y (8 * d0 + s0 + 1) = rel d0 (6 + s0) (wF n c false d0 s0) (rk (fA T E (wF n c false)) y (8 * d0 + s0)) := fun h9 h7 => by have h8 := rk_e (E := E) (w := wF n c false) (s := y) (k := 8 * d0 + s0) (T := T) (by rw [e1, e2]; exact h9) (by rw [e1, e2]; exact h7); rw [e1, e2] at h8; exact h8
    have hrn : ¬ T d0 s0 = true → ¬ E d0 s0 = true → rk (fA T E (wF n c false)) y (8 * d0 + s0 + 1) = rk (fA T E (wF n c false)) y (8 * d0 + s0) := fun h9 h7 => rk_n (by rw [e1, e2]; exact h9) (by rw [e1, e2]; exact h7)
    have hl1 := hlb (8 * d0 + s0) d0 (by omega)
    have hl2 := hlb (8 * d0 + s0) (6 + s0) (by omega)
    have hwb := hww d0 s0
    refine w_blk 2 (pc' := 9) (ls' := [some (.ref 34), some (.ref 13), some (.int (nI d0)), some (.int z), some (.int (nI s0))]) (sk' := [.int 8, .int (nI s0)]) (st' := s1) (fun _ h => h) ?_
    refine w_cmp_ge rfl (fun hno => absurd hno (nI_ge (a := s0) (b := 8) hs8 (by omega))) (fun _ => ?_)
    refine w_blk 3 (pc' := 17) (ls' := [some (.ref 34), some (.ref 13), some (.int (nI d0)), some (.int z), some (.int (nI s0))]) (sk' := [.int (nI d0), .ref 36]) (st' := s1) (fun _ h => h) ?_
    refine w_callS (As := [.ref 36, .int (nI d0)]) (rest := []) rfl rfl rfl (Nat.le_of_ble_eq_true rfl) (Nat.le_of_ble_eq_true rfl) (c_cellK (d + 1) 36 6 d0 s1 (by omega) (by decide) rfl) ?_
    rw [hT1 d0 (by omega)]
    refine w_blk 1 (pc' := 22) (ls' := [some (.ref 34), some (.ref 13), some (.int (nI d0)), some (.int z), some (.int (nI s0))]) (sk' := [.int (nI s0), .int (nI (tbs T d0))]) (st' := s1) (fun _ h => h) ?_
    refine w_callS (As := [.int (nI (tbs T d0)), .int (nI s0)]) (rest := []) rfl rfl rfl (Nat.le_of_ble_eq_true rfl) (Nat.le_of_ble_eq_true rfl) (c_hasBit (d + 1) (nI (tbs T d0)) (nI s0) s1) ?_
    rw [show (pI (bitP (nI (tbs T d0)) (nI s0))) = pI (Nat.testBit (tbs T d0) s0 = true) from pI_cong (bitP_nI (n := tbs T d0) (k := s0) (by omega) (by omega))]
    refine w_if_eq rfl (fun h1 => ?_) (fun h1 => ?_)
    · replace h1 := pI_eq0.mp h1
      have hts : ¬ T d0 s0 = true := fun e => h1 (tbs_bit.mpr ⟨hs8, e⟩)
      refine w_blk 3 (pc' := 53) (ls' := [some (.ref 34), some (.ref 13), some (.int (nI d0)), some (.int z), some (.int (nI s0))]) (sk' := [.int (nI d0), .ref 35]) (st' := s1) (fun _ h => h) ?_
      refine w_callS (As := [.ref 35, .int (nI d0)]) (rest := []) rfl rfl rfl (Nat.le_of_ble_eq_true rfl) (Nat.le_of_ble_eq_true rfl) (c_cellK (d + 1) 35 6 d0 s1 (by omega) (by decide) rfl) ?_
      rw [hO1 d0 (by omega)]
      refine w_blk 1 (pc' := 58) (ls' := [some (.ref 34), some (.ref 13), some (.int (nI d0)), some (.int z), some (.int (nI s0))]) (sk' := [.int (nI s0), .int (nI (tbs E d0))]) (st' := s1) (fun _ h => h) ?_
      refine w_callS (As := [.int (nI (tbs E d0)), .int (nI s0)]) (rest := []) rfl rfl rfl (Nat.le_of_ble_eq_true rfl) (Nat.le_of_ble_eq_true rfl) (c_hasBit (d + 1) (nI (tbs E d0)) (nI s0) s1) ?_
      rw [show (pI (bitP (nI (tbs E d0)) (nI s0))) = pI (Nat.testBit (tbs E d0) s0 = true) from pI_cong (bitP_nI (n := tbs E d0) (k := s0) (by omega) (by omega))]
      refine w_if_eq rfl (fun h2 => ?_) (fun h2 => ?_)
      · replace h2 := pI_eq0.mp h2
        have hes : ¬ E d0 s0 = true := fun e => h2 (tbs_bit.mpr ⟨hs8, e⟩)
        refine w_blk 1 (pc' := 84) (ls' := [some (.ref 34), some (.ref 13), some (.int (nI d0)), some (.int z), some (.int ((nI s0) + 1))]) (sk' := []) (st' := s1) (fun _ h => h) ?_
        rw [show ((nI s0) + 1) = nI (s0 + 1) from nI_add s0 1]
        refine w_blk 1 (pc' := 5) (ls' := [some (.ref 34), some (.ref 13), some (.int (nI d0)), some (.int z), some (.int (nI (s0 + 1)))]) (sk' := []) (st' := s1) (fun _ h => h) ?_
        exact ih (s0 + 1) z s1 (by omega) hz (fun h9 => (hrn hts hes).trans (hsame h9)) (by show XLb s1 n (rk (fA T E (wF n c false)) y (8 * d0 + s0 + 1)); rw [hrn hts hes]; exact hL1) hf
      · replace h2 := pI_ne.mp h2
        have hes := (tbs_bit.mp h2).2
        obtain ⟨hdn, hsn⟩ := hEn d0 s0 hd hs8 hes
        have hwv : nI (c 0 d0 * c 3 s0) = iI (wF n c false d0 s0) := by
          have e9 : wF n c false d0 s0 = ((c 0 d0 * c 3 s0 : Nat) : Int) := by
            unfold wF
            rw [if_neg Bool.false_ne_true, if_pos (show d0 < n 0 ∧ s0 < n 1 from ⟨hdn, hsn⟩)]
          rw [e9]
          rfl
        refine w_blk 7 (pc' := 73) (ls' := [some (.ref 34), some (.ref 13), some (.int (nI d0)), some (.int z), some (.int (nI s0))]) (sk' := [.int (nI s0), .int (nI d0), .ref 13, .int (nI s0), .int (nI d0), .ref 34, .int z]) (st' := s1) (fun _ h => h) ?_
        have hpr := c_productK_13 (d + 0) n c d0 s0 s1 hX1 hB hdn hsn
        rw [hwv] at hpr
        refine w_callV (As := [.ref 13, .int (nI d0), .int (nI s0)]) (rest := [.int (nI s0), .int (nI d0), .ref 34, .int z]) rfl rfl rfl (Nat.le_of_ble_eq_true rfl) (Nat.le_of_ble_eq_true rfl) (by first | exact Or.inl ⟨rfl, rfl⟩ | exact Or.inr ⟨rfl, rfl⟩) hpr ?_
        obtain ⟨zz, s2, hc2, hz2, hs2, hL2, hf2⟩ := c_toS (d + 0) n (rk (fA T E (wF n c false)) y (8 * d0 + s0)) d0 s0 (wF n c false d0 s0) s1 hb0 hL1 hdn hs8 hwb.1 hwb.2 hl1 hl2
        rw [← hre hts hes] at hL2 hs2
        refine w_callV (As := [.ref 34, .int (nI d0), .int (nI s0), .int (iI (wF n c false d0 s0))]) (rest := [.int z]) rfl rfl rfl (Nat.le_of_ble_eq_true rfl) (Nat.le_of_ble_eq_true rfl) (by first | exact Or.inl ⟨rfl, rfl⟩ | exact Or.inr ⟨rfl, rfl⟩) hc2 ?_
        refine w_blk 3 (pc' := 84) (ls' := [some (.ref 34), some (.ref 13), some (.int (nI d0)), some (.int (z ||| zz)), some (.int ((nI s0) + 1))]) (sk' := []) (st' := s2) (fun _ h => h) ?_
        rw [show ((nI s0) + 1) = nI (s0 + 1) from nI_add s0 1]
        refine w_blk 1 (pc' := 5) (ls' := [some (.ref 34), some (.ref 13), some (.int (nI d0)), some (.int (z ||| zz)), some (.int (nI (s0 + 1)))]) (sk' := []) (st' := s2) (fun _ h => h) ?_
        have hor : (z ||| zz = 0 ∨ z ||| zz = 1) ∧ (z ||| zz = 0 → z = 0 ∧ zz = 0) := by rcases hz with rfl | rfl <;> rcases hz2 with rfl | rfl <;> decide
        exact ih (s0 + 1) (z ||| zz) s2 (by omega) hor.1 (fun h9 => (hs2 (hor.2 h9).2).trans (hsame (hor.2 h9).1)) hL2 (Fr.trans hf hf2)
    · replace h1 := pI_ne.mp h1
      have hts := (tbs_bit.mp h1).2
      obtain ⟨hdn, hsn⟩ := hEn d0 s0 hd hs8 (hTE d0 s0 hd hs8 hts)
      have hwv : nI (c 0 d0 * c 3 s0) = iI (wF n c false d0 s0) := by
        have e9 : wF n c false d0 s0 = ((c 0 d0 * c 3 s0 : Nat) : Int) := by
          unfold wF
          rw [if_neg Bool.false_ne_true, if_pos (show d0 < n 0 ∧ s0 < n 1 from ⟨hdn, hsn⟩)]
        rw [e9]
        rfl
      refine w_blk 7 (pc' := 37) (ls' := [some (.ref 34), some (.ref 13), some (.int (nI d0)), some (.int z), some (.int (nI s0))]) (sk' := [.int (nI s0), .int (nI d0), .ref 13, .int (nI s0), .int (nI d0), .ref 34, .int z]) (st' := s1) (fun _ h => h) ?_
      have hpr := c_productK_13 (d + 0) n c d0 s0 s1 hX1 hB hdn hsn
      rw [hwv] at hpr
      refine w_callV (As := [.ref 13, .int (nI d0), .int (nI s0)]) (rest := [.int (nI s0), .int (nI d0), .ref 34, .int z]) rfl rfl rfl (Nat.le_of_ble_eq_true rfl) (Nat.le_of_ble_eq_true rfl) (by first | exact Or.inl ⟨rfl, rfl⟩ | exact Or.inr ⟨rfl, rfl⟩) hpr ?_
      obtain ⟨zz, s2, hc2, hz2, hs2, hL2, hf2⟩ := c_toD (d + 0) n (rk (fA T E (wF n c false)) y (8 * d0 + s0)) d0 s0 (wF n c false d0 s0) s1 hb0 hL1 hdn hs8 hwb.1 hwb.2 hl1 hl2
      rw [← hrt hts] at hL2 hs2
      refine w_callV (As := [.ref 34, .int (nI d0), .int (nI s0), .int (iI (wF n c false d0 s0))]) (rest := [.int z]) rfl rfl rfl (Nat.le_of_ble_eq_true rfl) (Nat.le_of_ble_eq_true rfl) (by first | exact Or.inl ⟨rfl, rfl⟩ | exact Or.inr ⟨rfl, rfl⟩) hc2 ?_
      refine w_blk 4 (pc' := 84) (ls' := [some (.ref 34), some (.ref 13), some (.int (nI d0)), some (.int (z ||| zz)), some (.int ((nI s0) + 1))]) (sk' := []) (st' := s2) (fun _ h => h) ?_
      rw [show ((nI s0) + 1) = nI (s0 + 1) from nI_add s0 1]
      refine w_blk 1 (pc' := 5) (ls' := [some (.ref 34), some (.ref 13), some (.int (nI d0)), some (.int (z ||| zz)), some (.int (nI (s0 + 1)))]) (sk' := []) (st' := s2) (fun _ h => h) ?_
      have hor : (z ||| zz = 0 ∨ z ||| zz = 1) ∧ (z ||| zz = 0 → z = 0 ∧ zz = 0) := by rcases hz with rfl | rfl <;> rcases hz2 with rfl | rfl <;> decide
      exact ih (s0 + 1) (z ||| zz) s2 (by omega) hor.1 (fun h9 => (hs2 (hor.2 h9).2).trans (hsame (hor.2 h9).1)) hL2 (Fr.trans hf hf2)
