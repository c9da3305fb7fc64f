/-! NIGHTS: the walks -/
def HBd (a : Nat) (T C U : Nat → Nat) : Prop := a ≤ 8 ∧ ∀ k, k < a → T k ≤ 99 ∧ 1 ≤ C k ∧ C k ≤ 99 ∧ T k ≤ U k ∧ U k ≤ 200
theorem wd_le {a : Nat} {T C U : Nat → Nat} (hH : HBd a T C U) (s e : Nat) : ∀ k, k ≤ a → wd T C U k s e ≤ 99 * k := by
  intro k
  induction k with
  | zero => exact fun _ => Nat.le_refl _
  | succ k ih =>
    intro hk
    have h1 := ih (by omega)
    have h2 := (hH.2 k (by omega)).2.2.1
    show wd T C U k s e + (if s ≤ T k ∧ U k ≤ e then C k else 0) ≤ _
    split <;> omega
theorem nd_bd {a : Nat} {T C U : Nat → Nat} (hH : HBd a T C U) (s e : Nat) : nd T C U a s e ≤ 1000000 := by
  have h1 := wd_le hH s e a (Nat.le_refl _)
  have h2 := hH.1
  unfold nd
  split
  · omega
  · split
    · omega
    · rename_i h0 hse
      have h3 : (wd T C U a s e + (e - s) - 1) / (e - s) ≤ wd T C U a s e + (e - s) - 1 := Nat.div_le_self _ _
      rw [← Nat.lt_succ_iff, Nat.div_lt_iff_lt_mul (by omega)]
      have h4 : 1000001 ≤ 1000001 * (e - s) := Nat.le_mul_of_pos_right _ (by omega)
      have h5 : e - s ≤ 1000000 * (e - s) := Nat.le_mul_of_pos_left _ (by omega)
      have h6 : 1000001 * (e - s) = 1000000 * (e - s) + (e - s) := by rw [show (1000001 : Nat) = 1000000 + 1 from rfl, Nat.add_mul, Nat.one_mul]
      have h7 : 1000000 ≤ 1000000 * (e - s) := Nat.le_mul_of_pos_right _ (by omega)
      show wd T C U a s e + (e - s) - 1 < 1000001 * (e - s)
      omega
theorem lcj_bd {a : Nat} {T C U : Nat → Nat} (hH : HBd a T C U) {acc i : Nat} (h : acc ≤ 1000000) (j : Nat) : lcj T C U a acc i j ≤ 1000000 := lcj_le.mpr ⟨h, fun j' _ => nd_bd hH _ _⟩
theorem lci_bd {a : Nat} {T C U : Nat → Nat} (hH : HBd a T C U) (i : Nat) : lci T C U a i ≤ 1000000 := lci_le.mpr ⟨by decide, fun i' j' _ _ => nd_bd hH _ _⟩
theorem lci_1 {a : Nat} {T C U : Nat → Nat} (i : Nat) : 1 ≤ lci T C U a i := (lci_le.mp (Nat.le_refl _)).1
theorem sm_upd {o : Nat → Nat} {f x : Nat} : ∀ a, f < a → sm (updN o f x) a + o f = sm o a + x := by
  intro a
  induction a with
  | zero => exact fun h => absurd h (Nat.not_lt_zero _)
  | succ a ih =>
    intro h
    show sm (updN o f x) a + updN o f x a + o f = sm o a + o a + x
    by_cases e : f = a
    · subst e
      rw [updN_s, sm_congr f (fun k hk => updN_n (show k ≠ f by omega))]
      omega
    · rw [updN_n (show a ≠ f by omega)]
      have := ih (by omega)
      omega
def avl (T U o : Nat → Nat) (b k : Nat) : Prop := 0 < o k ∧ T k ≤ b ∧ b < U k
theorem step_more {T U o0 o : Nat → Nat} {a q b w f : Nat} (h : stepR T U a q b o0 o w) (hf : f < a) (hav : avl T U o b f) (hmin : ∀ k, k < a → avl T U o b k → U f ≤ U k) : stepR T U a q b o0 (updN o f (o f - min (o f) w)) (w - min (o f) w) := by
  obtain ⟨h1, h2, h3, h4, h5⟩ := h
  have hs := sm_upd (o := o) (f := f) (x := o f - min (o f) w) a hf
  have hle : ∀ k, k < a → updN o f (o f - min (o f) w) k ≤ o k := fun k _ => by
    by_cases e : k = f
    · subst e
      rw [updN_s]
      omega
    · rw [updN_n e]
      exact Nat.le_refl _
  refine ⟨by omega, by omega, fun k hk => Nat.le_trans (hle k hk) (h3 k hk), fun k hk hn => ?_, fun k hk hlt k' hk' hw hU => ?_⟩
  · rw [updN_n (fun e => hn (by rw [e]; exact hav.2))]
    exact h4 k hk hn
  · have hz : o k' = 0 := by
      by_cases e : k = f
      · subst e
        by_cases h0 : o k' = 0
        · exact h0
        · have := hmin k' hk' ⟨by omega, hw⟩
          omega
      · rw [updN_n e] at hlt
        exact h5 k hk hlt k' hk' hw hU
    have := hle k' hk'
    omega
set_option maxRecDepth 20000 in
/-- neededWithin(s, e) -/
theorem c_needed (d : Nat) (a : Nat) (T C U : Nat → Nat) (s e : Nat) (st : mSt) (hP : XH st a T C U) (hH : HBd a T C U) (hs : s ≤ 200) (he : e ≤ 200) : mMC mT (d + 2) 41 [.ref 45, .int (nI s), .int (nI e)] st (some (.int (nI (nd T C U a s e)))) st := by
  refine mI_X3_neededWithin (d := d + 1) (Nat.le_of_ble_eq_true rfl) (fun Q hq => ?_)
  show mW (mMC mT (d + 1)) (0, fun _ => 0) (mAtL P_X3_neededWithin) (some .int) Q 0 [some (.ref 45), some (.int (nI s)), some (.int (nI e)), none, none] [] st
  have ha8 := hH.1
  have hwl := wd_le hH s e
  refine w_blk 4 (pc' := 5) (ls' := [some (.ref 45), some (.int (nI s)), some (.int (nI e)), some (.int 0), some (.int 0)]) (sk' := []) (st' := st) (fun _ h => h) ?_
  have key : ∀ (m k : Nat), k + m = a → mW (mMC mT (d + 1)) (0, fun _ => 0) (mAtL P_X3_neededWithin) (some .int) Q 5 [some (.ref 45), some (.int (nI s)), some (.int (nI e)), some (.int (nI (wd T C U k s e))), some (.int (nI k))] [] st := by
    intro m
    induction m with
    | zero =>
      intro k hk
      obtain rfl : a = k := by omega
      have hwa := hwl a (by omega)
      refine w_blk 3 (pc' := 11) (ls' := [some (.ref 45), some (.int (nI s)), some (.int (nI e)), some (.int (nI (wd T C U a s e))), some (.int (nI a))]) (sk' := [.int (st.1 45 0), .int (nI a)]) (st' := st) (fun _ h => h) ?_
      rw [hP.1]
      refine w_cmp_ge rfl (fun _ => ?_) (fun hno => absurd (Int32.le_refl _) hno)
      refine w_blk 1 (pc' := 59) (ls' := [some (.ref 45), some (.int (nI s)), some (.int (nI e)), some (.int (nI (wd T C U a s e))), some (.int (nI a))]) (sk' := [.int (nI (wd T C U a s e))]) (st' := st) (fun _ h => h) ?_
      refine w_if_ne rfl (fun h1 => ?_) (fun h1 => ?_)
      · replace h1 : ¬ (wd T C U a s e = 0) := fun hh => h1 ((nI_eq (a := (wd T C U a s e)) (b := 0) (by omega) (by omega)).mpr hh)
        refine w_blk 6 (pc' := 72) (ls' := [some (.ref 45), some (.int (nI s)), some (.int (nI e)), some (.int (nI (wd T C U a s e))), some (.int ((nI e) - (nI s)))]) (sk' := [.int 1, .int ((nI e) - (nI s))]) (st' := st) (fun _ h => h) ?_
        by_cases hse : s < e
        · rw [show ((nI e) - (nI s)) = nI (e - s) from pk_sub (by omega)]
          refine w_cmp_ge rfl (fun _ => ?_) (fun hno => absurd (nI_le (a := 1) (b := e - s) (by omega) (by omega)) hno)
          refine w_blk 3 (pc' := 84) (ls' := [some (.ref 45), some (.int (nI s)), some (.int (nI e)), some (.int (nI (wd T C U a s e))), some (.int (nI (e - s)))]) (sk' := [.int ((nI (wd T C U a s e)) + (nI (e - s)))]) (st' := st) (fun _ h => h) ?_
          rw [show ((nI (wd T C U a s e)) + (nI (e - s))) = nI ((wd T C U a s e) + (e - s)) from nI_add (wd T C U a s e) (e - s)]
          refine w_blk 2 (pc' := 86) (ls' := [some (.ref 45), some (.int (nI s)), some (.int (nI e)), some (.int (nI (wd T C U a s e))), some (.int (nI (e - s)))]) (sk' := [.int ((nI ((wd T C U a s e) + (e - s))) - 1)]) (st' := st) (fun _ h => h) ?_
          rw [show ((nI ((wd T C U a s e) + (e - s))) - 1) = nI (((wd T C U a s e) + (e - s)) - 1) from pk_sub (a := (wd T C U a s e) + (e - s)) (b := 1) (by omega)]
          refine w_blk 1 (pc' := 88) (ls' := [some (.ref 45), some (.int (nI s)), some (.int (nI e)), some (.int (nI (wd T C U a s e))), some (.int (nI (e - s)))]) (sk' := [.int (nI (e - s)), .int (nI (((wd T C U a s e) + (e - s)) - 1))]) (st' := st) (fun _ h => h) ?_
          refine w_callS (As := [.int (nI (((wd T C U a s e) + (e - s)) - 1)), .int (nI (e - s))]) (rest := []) rfl rfl rfl (Nat.le_of_ble_eq_true rfl) (Nat.le_of_ble_eq_true rfl) (c_quotK (d + 0) (((wd T C U a s e) + (e - s)) - 1) (e - s) st (by omega) (by omega) (by omega)) ?_
          rw [show nd T C U a s e = (wd T C U a s e + (e - s) - 1) / (e - s) from (if_neg h1).trans (if_neg (by omega))] at hq
          exact w_iret rfl rfl rfl hq
        · refine w_cmp_ge rfl (fun hno => absurd hno (fun hh => by rw [Int32.le_iff_toInt_le, pk_sub_toInt (by omega) (by omega)] at hh; have e1 : (1 : Int32).toInt = 1 := rfl; omega)) (fun _ => ?_)
          refine w_blk 2 (pc' := 91) (ls' := [some (.ref 45), some (.int (nI s)), some (.int (nI e)), some (.int (nI (wd T C U a s e))), some (.int ((nI e) - (nI s)))]) (sk' := [.int 1000000]) (st' := st) (fun _ h => h) ?_
          rw [show nd T C U a s e = 1000000 from (if_neg h1).trans (if_pos (by omega))] at hq
          exact w_iret rfl rfl rfl hq
      · replace h1 : wd T C U a s e = 0 := (nI_eq (a := (wd T C U a s e)) (b := 0) (by omega) (by omega)).mp (Decidable.not_not.mp h1)
        refine w_blk 1 (pc' := 63) (ls' := [some (.ref 45), some (.int (nI s)), some (.int (nI e)), some (.int (nI (wd T C U a s e))), some (.int (nI a))]) (sk' := [.int 0]) (st' := st) (fun _ h => h) ?_
        rw [show nd T C U a s e = 0 from if_pos h1] at hq
        exact w_iret rfl rfl rfl hq
    | succ m ih =>
      intro k hk
      have hk2 : k < a := by omega
      have hHk := hH.2 k hk2
      have hwk := hwl k (by omega)
      refine w_blk 3 (pc' := 11) (ls' := [some (.ref 45), some (.int (nI s)), some (.int (nI e)), some (.int (nI (wd T C U k s e))), some (.int (nI k))]) (sk' := [.int (st.1 45 0), .int (nI k)]) (st' := st) (fun _ h => h) ?_
      rw [hP.1]
      refine w_cmp_ge rfl (fun hno => absurd hno (nI_ge hk2 (by omega))) (fun _ => ?_)
      refine w_blk 3 (pc' := 20) (ls' := [some (.ref 45), some (.int (nI s)), some (.int (nI e)), some (.int (nI (wd T C U k s e))), some (.int (nI k))]) (sk' := [.int (nI k), .ref 46]) (st' := st) (fun _ h => h) ?_
      refine w_callS (As := [.ref 46, .int (nI k)]) (rest := []) rfl rfl rfl (Nat.le_of_ble_eq_true rfl) (Nat.le_of_ble_eq_true rfl) (c_cellK (d + 0) 46 8 k st (by omega) (by decide) rfl) ?_
      rw [(hP.2 k (by omega)).1]
      refine w_blk 1 (pc' := 24) (ls' := [some (.ref 45), some (.int (nI s)), some (.int (nI e)), some (.int (nI (wd T C U k s e))), some (.int (nI k))]) (sk' := [.int (nI s), .int (nI (T k))]) (st' := st) (fun _ h => h) ?_
      refine w_cmp_lt rfl (fun h1 => ?_) (fun h1 => ?_)
      · replace h1 : T k < s := (nI_ltI (a := (T k)) (b := s) (by omega) (by omega)).mp h1
        refine w_blk 1 (pc' := 55) (ls' := [some (.ref 45), some (.int (nI s)), some (.int (nI e)), some (.int (nI (wd T C U k s e))), some (.int ((nI k) + 1))]) (sk' := []) (st' := st) (fun _ h => h) ?_
        rw [show ((nI k) + 1) = nI (k + 1) from nI_add k 1]
        refine w_blk 1 (pc' := 5) (ls' := [some (.ref 45), some (.int (nI s)), some (.int (nI e)), some (.int (nI (wd T C U k s e))), some (.int (nI (k + 1)))]) (sk' := []) (st' := st) (fun _ h => h) ?_
        exact (by have hh := ih (k + 1) (by omega); rw [show wd T C U (k + 1) s e = wd T C U k s e from (congrArg (wd T C U k s e + ·) (if_neg (by omega))).trans (Nat.add_zero _)] at hh; exact hh)
      · replace h1 : ¬ (T k < s) := fun hh => h1 ((nI_ltI (a := (T k)) (b := s) (by omega) (by omega)).mpr hh)
        refine w_blk 3 (pc' := 33) (ls' := [some (.ref 45), some (.int (nI s)), some (.int (nI e)), some (.int (nI (wd T C U k s e))), some (.int (nI k))]) (sk' := [.int (nI k), .ref 48]) (st' := st) (fun _ h => h) ?_
        refine w_callS (As := [.ref 48, .int (nI k)]) (rest := []) rfl rfl rfl (Nat.le_of_ble_eq_true rfl) (Nat.le_of_ble_eq_true rfl) (c_cellK (d + 0) 48 8 k st (by omega) (by decide) rfl) ?_
        rw [(hP.2 k (by omega)).2.2]
        refine w_blk 1 (pc' := 37) (ls' := [some (.ref 45), some (.int (nI s)), some (.int (nI e)), some (.int (nI (wd T C U k s e))), some (.int (nI k))]) (sk' := [.int (nI e), .int (nI (U k))]) (st' := st) (fun _ h => h) ?_
        refine w_cmp_gt rfl (fun h2 => ?_) (fun h2 => ?_)
        · replace h2 : e < U k := (nI_ltI (a := e) (b := (U k)) (by omega) (by omega)).mp h2
          refine w_blk 1 (pc' := 55) (ls' := [some (.ref 45), some (.int (nI s)), some (.int (nI e)), some (.int (nI (wd T C U k s e))), some (.int ((nI k) + 1))]) (sk' := []) (st' := st) (fun _ h => h) ?_
          rw [show ((nI k) + 1) = nI (k + 1) from nI_add k 1]
          refine w_blk 1 (pc' := 5) (ls' := [some (.ref 45), some (.int (nI s)), some (.int (nI e)), some (.int (nI (wd T C U k s e))), some (.int (nI (k + 1)))]) (sk' := []) (st' := st) (fun _ h => h) ?_
          exact (by have hh := ih (k + 1) (by omega); rw [show wd T C U (k + 1) s e = wd T C U k s e from (congrArg (wd T C U k s e + ·) (if_neg (by omega))).trans (Nat.add_zero _)] at hh; exact hh)
        · replace h2 : ¬ (e < U k) := fun hh => h2 ((nI_ltI (a := e) (b := (U k)) (by omega) (by omega)).mpr hh)
          refine w_blk 4 (pc' := 47) (ls' := [some (.ref 45), some (.int (nI s)), some (.int (nI e)), some (.int (nI (wd T C U k s e))), some (.int (nI k))]) (sk' := [.int (nI k), .ref 47, .int (nI (wd T C U k s e))]) (st' := st) (fun _ h => h) ?_
          refine w_callS (As := [.ref 47, .int (nI k)]) (rest := [.int (nI (wd T C U k s e))]) rfl rfl rfl (Nat.le_of_ble_eq_true rfl) (Nat.le_of_ble_eq_true rfl) (c_cellK (d + 0) 47 8 k st (by omega) (by decide) rfl) ?_
          rw [(hP.2 k (by omega)).2.1]
          refine w_blk 1 (pc' := 51) (ls' := [some (.ref 45), some (.int (nI s)), some (.int (nI e)), some (.int (nI (wd T C U k s e))), some (.int (nI k))]) (sk' := [.int ((nI (wd T C U k s e)) + (nI (C k)))]) (st' := st) (fun _ h => h) ?_
          rw [show ((nI (wd T C U k s e)) + (nI (C k))) = nI ((wd T C U k s e) + (C k)) from nI_add (wd T C U k s e) (C k)]
          refine w_blk 2 (pc' := 55) (ls' := [some (.ref 45), some (.int (nI s)), some (.int (nI e)), some (.int (nI ((wd T C U k s e) + (C k)))), some (.int ((nI k) + 1))]) (sk' := []) (st' := st) (fun _ h => h) ?_
          rw [show ((nI k) + 1) = nI (k + 1) from nI_add k 1]
          refine w_blk 1 (pc' := 5) (ls' := [some (.ref 45), some (.int (nI s)), some (.int (nI e)), some (.int (nI ((wd T C U k s e) + (C k)))), some (.int (nI (k + 1)))]) (sk' := []) (st' := st) (fun _ h => h) ?_
          exact (by have hh := ih (k + 1) (by omega); rw [show wd T C U (k + 1) s e = (wd T C U k s e) + (C k) from congrArg (wd T C U k s e + ·) (if_pos ⟨by omega, by omega⟩)] at hh; exact hh)
  exact key (a - 0) 0 (by omega)
set_option maxRecDepth 20000 in
/-- leastClods() -/
theorem c_least (d : Nat) (a : Nat) (T C U : Nat → Nat) (st : mSt) (hP : XH st a T C U) (hH : HBd a T C U) : mMC mT (d + 3) 40 [.ref 45] st (some (.int (nI (lci T C U a a)))) st := by
  refine mI_X3_leastClods (d := d + 2) (Nat.le_of_ble_eq_true rfl) (fun Q hq => ?_)
  show mW (mMC mT (d + 2)) (0, fun _ => 0) (mAtL P_X3_leastClods) (some .int) Q 0 [some (.ref 45), none, none, none] [] st
  have ha8 := hH.1
  refine w_blk 4 (pc' := 4) (ls' := [some (.ref 45), some (.int 1), some (.int 0), none]) (sk' := []) (st' := st) (fun _ h => h) ?_
  suffices key : ∀ (m i : Nat) (l3 : Option Value), i + m = a → mW (mMC mT (d + 2)) (0, fun _ => 0) (mAtL P_X3_leastClods) (some .int) Q 4 [some (.ref 45), some (.int (nI (lci T C U a i))), some (.int (nI i)), l3] [] st from key a 0 none (by omega)
  intro m
  induction m with
  | zero =>
    intro i l3 hi
    obtain rfl : a = i := by omega
    refine w_blk 3 (pc' := 9) (ls' := [some (.ref 45), some (.int (nI (lci T C U a a))), some (.int (nI a)), l3]) (sk' := [.int (st.1 45 0), .int (nI a)]) (st' := st) (fun _ h => h) ?_
    rw [hP.1]
    refine w_cmp_ge rfl (fun _ => ?_) (fun hno => absurd (Int32.le_refl _) hno)
    refine w_blk 1 (pc' := 60) (ls' := [some (.ref 45), some (.int (nI (lci T C U a a))), some (.int (nI a)), l3]) (sk' := [.int (nI (lci T C U a a))]) (st' := st) (fun _ h => h) ?_
    exact w_iret rfl rfl rfl hq
  | succ m ih =>
    intro i l3 hi
    have hi2 : i < a := by omega
    have hHi := hH.2 i hi2
    have hli := lci_bd hH i
    refine w_blk 3 (pc' := 9) (ls' := [some (.ref 45), some (.int (nI (lci T C U a i))), some (.int (nI i)), l3]) (sk' := [.int (st.1 45 0), .int (nI i)]) (st' := st) (fun _ h => h) ?_
    rw [hP.1]
    refine w_cmp_ge rfl (fun hno => absurd hno (nI_ge hi2 (by omega))) (fun _ => ?_)
    refine w_blk 2 (pc' := 14) (ls' := [some (.ref 45), some (.int (nI (lci T C U a i))), some (.int (nI i)), some (.int 0)]) (sk' := []) (st' := st) (fun _ h => h) ?_
    have key2 : ∀ (m j : Nat), j + m = a → mW (mMC mT (d + 2)) (0, fun _ => 0) (mAtL P_X3_leastClods) (some .int) Q 14 [some (.ref 45), some (.int (nI (lcj T C U a (lci T C U a i) i j))), some (.int (nI i)), some (.int (nI j))] [] st := by
      intro m
      induction m with
      | zero =>
        intro j hj
        obtain rfl : a = j := by omega
        refine w_blk 3 (pc' := 19) (ls' := [some (.ref 45), some (.int (nI (lcj T C U a (lci T C U a i) i a))), some (.int (nI i)), some (.int (nI a))]) (sk' := [.int (st.1 45 0), .int (nI a)]) (st' := st) (fun _ h => h) ?_
        rw [hP.1]
        refine w_cmp_ge rfl (fun _ => ?_) (fun hno => absurd (Int32.le_refl _) hno)
        refine w_blk 1 (pc' := 56) (ls' := [some (.ref 45), some (.int (nI (lcj T C U a (lci T C U a i) i a))), some (.int ((nI i) + 1)), some (.int (nI a))]) (sk' := []) (st' := st) (fun _ h => h) ?_
        rw [show ((nI i) + 1) = nI (i + 1) from nI_add i 1]
        refine w_blk 1 (pc' := 4) (ls' := [some (.ref 45), some (.int (nI (lcj T C U a (lci T C U a i) i a))), some (.int (nI (i + 1))), some (.int (nI a))]) (sk' := []) (st' := st) (fun _ h => h) ?_
        exact ih (i + 1) _ (by omega)
      | succ m ih2 =>
        intro j hj
        have hj2 : j < a := by omega
        have hHj := hH.2 j hj2
        have hlj := lcj_bd hH hli (i := i) j
        have hnb := nd_bd hH (T i) (U j)
        refine w_blk 3 (pc' := 19) (ls' := [some (.ref 45), some (.int (nI (lcj T C U a (lci T C U a i) i j))), some (.int (nI i)), some (.int (nI j))]) (sk' := [.int (st.1 45 0), .int (nI j)]) (st' := st) (fun _ h => h) ?_
        rw [hP.1]
        refine w_cmp_ge rfl (fun hno => absurd hno (nI_ge hj2 (by omega))) (fun _ => ?_)
        refine w_blk 5 (pc' := 29) (ls' := [some (.ref 45), some (.int (nI (lcj T C U a (lci T C U a i) i j))), some (.int (nI i)), some (.int (nI j))]) (sk' := [.int (nI i), .ref 46, .ref 45, .int (nI (lcj T C U a (lci T C U a i) i j))]) (st' := st) (fun _ h => h) ?_
        refine w_callS (As := [.ref 46, .int (nI i)]) (rest := [.ref 45, .int (nI (lcj T C U a (lci T C U a i) i j))]) rfl rfl rfl (Nat.le_of_ble_eq_true rfl) (Nat.le_of_ble_eq_true rfl) (c_cellK (d + 1) 46 8 i st (by omega) (by decide) rfl) ?_
        rw [(hP.2 i (by omega)).1]
        refine w_blk 3 (pc' := 37) (ls' := [some (.ref 45), some (.int (nI (lcj T C U a (lci T C U a i) i j))), some (.int (nI i)), some (.int (nI j))]) (sk' := [.int (nI j), .ref 48, .int (nI (T i)), .ref 45, .int (nI (lcj T C U a (lci T C U a i) i j))]) (st' := st) (fun _ h => h) ?_
        refine w_callS (As := [.ref 48, .int (nI j)]) (rest := [.int (nI (T i)), .ref 45, .int (nI (lcj T C U a (lci T C U a i) i j))]) rfl rfl rfl (Nat.le_of_ble_eq_true rfl) (Nat.le_of_ble_eq_true rfl) (c_cellK (d + 1) 48 8 j st (by omega) (by decide) rfl) ?_
        rw [(hP.2 j (by omega)).2.2]
        refine w_callV (As := [.ref 45, .int (nI (T i)), .int (nI (U j))]) (rest := [.int (nI (lcj T C U a (lci T C U a i) i j))]) rfl rfl rfl (Nat.le_of_ble_eq_true rfl) (Nat.le_of_ble_eq_true rfl) (by first | exact Or.inl ⟨rfl, rfl⟩ | exact Or.inr ⟨rfl, rfl⟩) (c_needed (d + 0) a T C U (T i) (U j) st hP hH (by omega) (by omega)) ?_
        refine w_callS (As := [.int (nI (lcj T C U a (lci T C U a i) i j)), .int (nI (nd T C U a (T i) (U j)))]) (rest := []) rfl rfl rfl (Nat.le_of_ble_eq_true rfl) (Nat.le_of_ble_eq_true rfl) (c_maxK (d + 1) (lcj T C U a (lci T C U a i) i j) (nd T C U a (T i) (U j)) st (by omega) (by omega)) ?_
        refine w_blk 2 (pc' := 50) (ls' := [some (.ref 45), some (.int (nI (max (lcj T C U a (lci T C U a i) i j) (nd T C U a (T i) (U j))))), some (.int (nI i)), some (.int ((nI j) + 1))]) (sk' := []) (st' := st) (fun _ h => h) ?_
        rw [show ((nI j) + 1) = nI (j + 1) from nI_add j 1]
        refine w_blk 1 (pc' := 14) (ls' := [some (.ref 45), some (.int (nI (max (lcj T C U a (lci T C U a i) i j) (nd T C U a (T i) (U j))))), some (.int (nI i)), some (.int (nI (j + 1)))]) (sk' := []) (st' := st) (fun _ h => h) ?_
        exact ih2 (j + 1) (by omega)
    exact key2 a 0 (by omega)
def sp_night (a : Nat) (T C U : Nat → Nat) (q : Int32) : Int32 := if 1 ≤ q ∧ q ≤ 99 then pI (lci T C U a a ≤ q.toNatClampNeg) else -1
def sp_least (a : Nat) (T C U : Nat → Nat) : Int32 := if lci T C U a a ≤ 99 then nI (lci T C U a a) else -9
set_option maxRecDepth 20000 in
/-- night -/
theorem x_night (d : Nat) (a : Nat) (T C U : Nat → Nat) (q : Int32) (st : mSt) (hP : XH st a T C U) (hH : HBd a T C U) : mMC mT (d + 4) 104 [.ref 0, .int q] st (some (.int (sp_night a T C U q))) st := by
  refine mI_X9_night (d := d + 3) (Nat.le_of_ble_eq_true rfl) (fun Q hq => ?_)
  show mW (mMC mT (d + 3)) (0, fun _ => 0) (mAtL P_X9_night) (some .int) Q 0 [some (.ref 0), some (.int q)] [] st
  have hlb := lci_bd hH a
  refine w_blk 3 (pc' := 4) (ls' := [some (.ref 0), some (.int q)]) (sk' := [.int 99, .int 1, .int q]) (st' := st) (fun _ h => h) ?_
  refine w_callS (As := [.int q, .int 1, .int 99]) (rest := []) rfl rfl rfl (Nat.le_of_ble_eq_true rfl) (Nat.le_of_ble_eq_true rfl) (c_within (d + 2) q 1 99 st) ?_
  refine w_if_eq rfl (fun h1 => ?_) (fun h1 => ?_)
  · replace h1 := pI_eq0.mp h1
    refine w_blk 1 (pc' := 33) (ls' := [some (.ref 0), some (.int q)]) (sk' := [.int (-1)]) (st' := st) (fun _ h => h) ?_
    rw [show sp_night a T C U q = (-1) from if_neg h1] at hq
    exact w_iret rfl rfl rfl hq
  · replace h1 := pI_ne.mp h1
    have hok : 1 ≤ q ∧ q ≤ 99 := h1
    obtain ⟨k, hk1, hk2, rfl⟩ := nI_within (a := 1) (b := 99) h1 (by decide) (by decide)
    rw [show sp_night a T C U (nI k) = pI (lci T C U a a ≤ k) from (if_pos hok).trans (by rw [nI_clamp (show k < 2 ^ 31 by omega)])] at hq
    refine w_blk 2 (pc' := 14) (ls' := [some (.ref 0), some (.int (nI k))]) (sk' := [.ref 45]) (st' := st) (fun _ h => h) ?_
    refine w_callV (As := [.ref 45]) (rest := []) rfl rfl rfl (Nat.le_of_ble_eq_true rfl) (Nat.le_of_ble_eq_true rfl) (by first | exact Or.inl ⟨rfl, rfl⟩ | exact Or.inr ⟨rfl, rfl⟩) (c_least (d + 0) a T C U st hP hH) ?_
    refine w_blk 1 (pc' := 18) (ls' := [some (.ref 0), some (.int (nI k))]) (sk' := [.int (nI k), .int (nI (lci T C U a a))]) (st' := st) (fun _ h => h) ?_
    refine w_cmp_gt rfl (fun h2 => ?_) (fun h2 => ?_)
    · replace h2 : k < lci T C U a a := (nI_ltI (a := k) (b := (lci T C U a a)) (by omega) (by omega)).mp h2
      refine w_blk 1 (pc' := 26) (ls' := [some (.ref 0), some (.int (nI k))]) (sk' := [.int 0]) (st' := st) (fun _ h => h) ?_
      refine w_callS (As := [.int 0]) (rest := []) rfl rfl rfl (Nat.le_of_ble_eq_true rfl) (Nat.le_of_ble_eq_true rfl) (c_asNumber (d + 2) 0 st) ?_
      refine w_blk 1 (pc' := 33) (ls' := [some (.ref 0), some (.int (nI k))]) (sk' := [.int (if 0 = 0 then 0 else 1)]) (st' := st) (fun _ h => h) ?_
      rw [pI_f (by omega)] at hq
      exact w_iret rfl rfl rfl hq
    · replace h2 : ¬ (k < lci T C U a a) := fun hh => h2 ((nI_ltI (a := k) (b := (lci T C U a a)) (by omega) (by omega)).mpr hh)
      refine w_blk 2 (pc' := 26) (ls' := [some (.ref 0), some (.int (nI k))]) (sk' := [.int 1]) (st' := st) (fun _ h => h) ?_
      refine w_callS (As := [.int 1]) (rest := []) rfl rfl rfl (Nat.le_of_ble_eq_true rfl) (Nat.le_of_ble_eq_true rfl) (c_asNumber (d + 2) 1 st) ?_
      refine w_blk 1 (pc' := 33) (ls' := [some (.ref 0), some (.int (nI k))]) (sk' := [.int (if 1 = 0 then 0 else 1)]) (st' := st) (fun _ h => h) ?_
      rw [pI_t (by omega)] at hq
      exact w_iret rfl rfl rfl hq
set_option maxRecDepth 20000 in
/-- least -/
theorem x_least (d : Nat) (a : Nat) (T C U : Nat → Nat) (st : mSt) (hP : XH st a T C U) (hH : HBd a T C U) : mMC mT (d + 4) 105 [.ref 0] st (some (.int (sp_least a T C U))) st := by
  refine mI_X9_least (d := d + 3) (Nat.le_of_ble_eq_true rfl) (fun Q hq => ?_)
  show mW (mMC mT (d + 3)) (0, fun _ => 0) (mAtL P_X9_least) (some .int) Q 0 [some (.ref 0), none] [] st
  have hlb := lci_bd hH a
  refine w_blk 2 (pc' := 4) (ls' := [some (.ref 0), none]) (sk' := [.ref 45]) (st' := st) (fun _ h => h) ?_
  refine w_callV (As := [.ref 45]) (rest := []) rfl rfl rfl (Nat.le_of_ble_eq_true rfl) (Nat.le_of_ble_eq_true rfl) (by first | exact Or.inl ⟨rfl, rfl⟩ | exact Or.inr ⟨rfl, rfl⟩) (c_least (d + 0) a T C U st hP hH) ?_
  refine w_blk 3 (pc' := 11) (ls' := [some (.ref 0), some (.int (nI (lci T C U a a)))]) (sk' := [.int 99, .int (nI (lci T C U a a))]) (st' := st) (fun _ h => h) ?_
  refine w_cmp_gt rfl (fun h2 => ?_) (fun h2 => ?_)
  · replace h2 : 99 < lci T C U a a := (nI_ltI (a := 99) (b := (lci T C U a a)) (by omega) (by omega)).mp h2
    refine w_blk 1 (pc' := 20) (ls' := [some (.ref 0), some (.int (nI (lci T C U a a)))]) (sk' := [.int (-9)]) (st' := st) (fun _ h => h) ?_
    rw [show sp_least a T C U = (-9) from if_neg (by omega)] at hq
    exact w_iret rfl rfl rfl hq
  · replace h2 : ¬ (99 < lci T C U a a) := fun hh => h2 ((nI_ltI (a := 99) (b := (lci T C U a a)) (by omega) (by omega)).mpr hh)
    refine w_blk 2 (pc' := 20) (ls' := [some (.ref 0), some (.int (nI (lci T C U a a)))]) (sk' := [.int (nI (lci T C U a a))]) (st' := st) (fun _ h => h) ?_
    rw [show sp_least a T C U = (nI (lci T C U a a)) from if_pos (by omega)] at hq
    exact w_iret rfl rfl rfl hq
