/-! NIGHTS: the walks -/
def HBd (a : Nat) (T C U : Nat → Nat) : Prop := a ≤ 8 ∧ ∀ k, k < a → T k ≤ 99 ∧ 1 ≤ C k ∧ C k ≤ 99 ∧ T k ≤ U k ∧ U k ≤ 200
theorem wd_le {a : Nat} {T C U : Nat → Nat} (hH : HBd a T C U) (s e : Nat) : ∀ k, k ≤ a → wd T C U k s e ≤ 99 * k := by
  intro k
  induction k with
  | zero => exact fun _ => Nat.le_refl _
  | succ k ih =>
    intro hk
    have h1 := ih (by omega)
    have h2 := (hH.2 k (by omega)).2.2.1
    show wd T C U k s e + (if s ≤ T k ∧ U k ≤ e then C k else 0) ≤ _
    split <;> omega
theorem nd_bd {a : Nat} {T C U : Nat → Nat} (hH : HBd a T C U) (s e : Nat) : nd T C U a s e ≤ 1000000 := by
  have h1 := wd_le hH s e a (Nat.le_refl _)
  have h2 := hH.1
  unfold nd
  split
  · omega
  · split
    · omega
    · rename_i h0 hse
      have h3 : (wd T C U a s e + (e - s) - 1) / (e - s) ≤ wd T C U a s e + (e - s) - 1 := Nat.div_le_self _ _
      rw [← Nat.lt_succ_iff, Nat.div_lt_iff_lt_mul (by omega)]
      have h4 : 1000001 ≤ 1000001 * (e - s) := Nat.le_mul_of_pos_right _ (by omega)
      have h5 : e - s ≤ 1000000 * (e - s) := Nat.le_mul_of_pos_left _ (by omega)
      have h6 : 1000001 * (e - s) = 1000000 * (e - s) + (e - s) := by rw [show (1000001 : Nat) = 1000000 + 1 from rfl, Nat.add_mul, Nat.one_mul]
      have h7 : 1000000 ≤ 1000000 * (e - s) := Nat.le_mul_of_pos_right _ (by omega)
      show wd T C U a s e + (e - s) - 1 < 1000001 * (e - s)
      omega
theorem lcj_bd {a : Nat} {T C U : Nat → Nat} (hH : HBd a T C U) {acc i : Nat} (h : acc ≤ 1000000) (j : Nat) : lcj T C U a acc i j ≤ 1000000 := (lcj_le j).mpr ⟨h, fun j' _ => nd_bd hH _ _⟩
theorem lci_bd {a : Nat} {T C U : Nat → Nat} (hH : HBd a T C U) (i : Nat) : lci T C U a i ≤ 1000000 := (lci_le i).mpr ⟨by decide, fun i' j' _ _ => nd_bd hH _ _⟩
theorem lci_1 {a : Nat} {T C U : Nat → Nat} (i : Nat) : 1 ≤ lci T C U a i := ((lci_le i).mp (Nat.le_refl _)).1
theorem sm_upd {o : Nat → Nat} {f x : Nat} : ∀ a, f < a → sm (updN o f x) a + o f = sm o a + x := by
  intro a
  induction a with
  | zero => exact fun h => absurd h (Nat.not_lt_zero _)
  | succ a ih =>
    intro h
    show sm (updN o f x) a + updN o f x a + o f = sm o a + o a + x
    by_cases e : f = a
    · subst e
      rw [updN_s, sm_congr (g := o) f (fun k hk => updN_n (show k ≠ f by omega))]
      omega
    · rw [updN_n (show a ≠ f by omega)]
      have := ih (by omega)
      omega
def avl (T U o : Nat → Nat) (b k : Nat) : Prop := 0 < o k ∧ T k ≤ b ∧ b < U k
theorem step_more {T U o0 o : Nat → Nat} {a q b w f : Nat} (h : stepR T U a q b o0 o w) (hf : f < a) (hav : avl T U o b f) (hmin : ∀ k, k < a → avl T U o b k → U f ≤ U k) : stepR T U a q b o0 (updN o f (o f - min (o f) w)) (w - min (o f) w) := by
  obtain ⟨h1, h2, h3, h4, h5⟩ := h
  have hs := sm_upd (o := o) (f := f) (x := o f - min (o f) w) a hf
  have hle : ∀ k, k < a → updN o f (o f - min (o f) w) k ≤ o k := fun k _ => by
    by_cases e : k = f
    · subst e
      rw [updN_s]
      omega
    · rw [updN_n e]
      exact Nat.le_refl _
  refine ⟨by omega, by omega, fun k hk => Nat.le_trans (hle k hk) (h3 k hk), fun k hk hn => ?_, fun k hk hlt k' hk' hw hU => ?_⟩
  · rw [updN_n (fun e => hn (by rw [e]; exact hav.2))]
    exact h4 k hk hn
  · have hz : o k' = 0 := by
      by_cases e : k = f
      · subst e
        by_cases h0 : o k' = 0
        · exact h0
        · have := hmin k' hk' ⟨by omega, hw⟩
          omega
      · rw [updN_n e] at hlt
        exact h5 k hk hlt k' hk' hw hU
    have := hle k' hk'
    omega
set_option maxRecDepth 20000 in
/-- neededWithin(s, e) -/
theorem c_needed (d : Nat) (a : Nat) (T C U : Nat → Nat) (s e : Nat) (st : mSt) (hP : XH st a T C U) (hH : HBd a T C U) (hs : s ≤ 200) (he : e ≤ 200) : mMC mT (d + 2) 41 [.ref 45, .int (nI s), .int (nI e)] st (some (.int (nI (nd T C U a s e)))) st := by
  refine mI_X3_neededWithin (d := d + 1) (Nat.le_of_ble_eq_true rfl) (fun Q hq => ?_)
  show mW (mMC mT (d + 1)) (0, fun _ => 0) (mAtL P_X3_neededWithin) (some .int) Q 0 [some (.ref 45), some (.int (nI s)), some (.int (nI e)), none, none] [] st
  have ha8 := hH.1
  have hwl := wd_le hH s e
  refine w_blk 4 (pc' := 5) (ls' := [some (.ref 45), some (.int (nI s)), some (.int (nI e)), some (.int 0), some (.int 0)]) (sk' := []) (st' := st) (fun _ h => h) ?_
  have key : ∀ (m k : Nat), k + m = a → mW (mMC mT (d + 1)) (0, fun _ => 0) (mAtL P_X3_neededWithin) (some .int) Q 5 [some (.ref 45), some (.int (nI s)), some (.int (nI e)), some (.int (nI (wd T C U k s e))), some (.int (nI k))] [] st := by
    intro m
    induction m with
    | zero =>
      intro k hk
      obtain rfl : a = k := by omega
      have hwa := hwl a (by omega)
      refine w_blk 3 (pc' := 11) (ls' := [some (.ref 45), some (.int (nI s)), some (.int (nI e)), some (.int (nI (wd T C U a s e))), some (.int (nI a))]) (sk' := [.int (st.1 45 0), .int (nI a)]) (st' := st) (fun _ h => h) ?_
      rw [hP.1]
      refine w_cmp_ge rfl (fun _ => ?_) (fun hno => absurd (Int32.le_refl _) hno)
      refine w_blk 1 (pc' := 59) (ls' := [some (.ref 45), some (.int (nI s)), some (.int (nI e)), some (.int (nI (wd T C U a s e))), some (.int (nI a))]) (sk' := [.int (nI (wd T C U a s e))]) (st' := st) (fun _ h => h) ?_
      refine w_if_ne rfl (fun h1 => ?_) (fun h1 => ?_)
      · replace h1 : ¬ (wd T C U a s e = 0) := fun hh => h1 ((nI_eq (a := (wd T C U a s e)) (b := 0) (by omega) (by omega)).mpr hh)
        refine w_blk 6 (pc' := 72) (ls' := [some (.ref 45), some (.int (nI s)), some (.int (nI e)), some (.int (nI (wd T C U a s e))), some (.int ((nI e) - (nI s)))]) (sk' := [.int 1, .int ((nI e) - (nI s))]) (st' := st) (fun _ h => h) ?_
        by_cases hse : s < e
        · rw [show ((nI e) - (nI s)) = nI (e - s) from pk_sub (by omega)]
          refine w_cmp_ge rfl (fun _ => ?_) (fun hno => absurd (nI_le (a := 1) (b := e - s) (by omega) (by omega)) hno)
          refine w_blk 3 (pc' := 84) (ls' := [some (.ref 45), some (.int (nI s)), some (.int (nI e)), some (.int (nI (wd T C U a s e))), some (.int (nI (e - s)))]) (sk' := [.int ((nI (wd T C U a s e)) + (nI (e - s)))]) (st' := st) (fun _ h => h) ?_
          rw [show ((nI (wd T C U a s e)) + (nI (e - s))) = nI ((wd T C U a s e) + (e - s)) from nI_add (wd T C U a s e) (e - s)]
          refine w_blk 2 (pc' := 86) (ls' := [some (.ref 45), some (.int (nI s)), some (.int (nI e)), some (.int (nI (wd T C U a s e))), some (.int (nI (e - s)))]) (sk' := [.int ((nI ((wd T C U a s e) + (e - s))) - 1)]) (st' := st) (fun _ h => h) ?_
          rw [show ((nI ((wd T C U a s e) + (e - s))) - 1) = nI (((wd T C U a s e) + (e - s)) - 1) from pk_sub (a := (wd T C U a s e) + (e - s)) (b := 1) (by omega)]
          refine w_blk 1 (pc' := 88) (ls' := [some (.ref 45), some (.int (nI s)), some (.int (nI e)), some (.int (nI (wd T C U a s e))), some (.int (nI (e - s)))]) (sk' := [.int (nI (e - s)), .int (nI (((wd T C U a s e) + (e - s)) - 1))]) (st' := st) (fun _ h => h) ?_
          refine w_callS (As := [.int (nI (((wd T C U a s e) + (e - s)) - 1)), .int (nI (e - s))]) (rest := []) rfl rfl rfl (Nat.le_of_ble_eq_true rfl) (Nat.le_of_ble_eq_true rfl) (c_quotK (d + 0) (((wd T C U a s e) + (e - s)) - 1) (e - s) st (by omega) (by omega) (by omega)) ?_
          rw [show nd T C U a s e = (wd T C U a s e + (e - s) - 1) / (e - s) from (if_neg h1).trans (if_neg (by omega))] at hq
          exact w_iret rfl rfl rfl hq
        · refine w_cmp_ge rfl (fun hno => absurd hno (fun hh => by rw [Int32.le_iff_toInt_le, pk_sub_toInt (by omega) (by omega)] at hh; have e1 : (1 : Int32).toInt = 1 := rfl; omega)) (fun _ => ?_)
          refine w_blk 2 (pc' := 91) (ls' := [some (.ref 45), some (.int (nI s)), some (.int (nI e)), some (.int (nI (wd T C U a s e))), some (.int ((nI e) - (nI s)))]) (sk' := [.int 1000000]) (st' := st) (fun _ h => h) ?_
          rw [show nd T C U a s e = 1000000 from (if_neg h1).trans (if_pos (by omega))] at hq
          exact w_iret rfl rfl rfl hq
      · replace h1 : wd T C U a s e = 0 := (nI_eq (a := (wd T C U a s e)) (b := 0) (by omega) (by omega)).mp (Decidable.not_not.mp h1)
        refine w_blk 1 (pc' := 63) (ls' := [some (.ref 45), some (.int (nI s)), some (.int (nI e)), some (.int (nI (wd T C U a s e))), some (.int (nI a))]) (sk' := [.int 0]) (st' := st) (fun _ h => h) ?_
        rw [show nd T C U a s e = 0 from if_pos h1] at hq
        exact w_iret rfl rfl rfl hq
    | succ m ih =>
      intro k hk
      have hk2 : k < a := by omega
      have hHk := hH.2 k hk2
      have hwk := hwl k (by omega)
      refine w_blk 3 (pc' := 11) (ls' := [some (.ref 45), some (.int (nI s)), some (.int (nI e)), some (.int (nI (wd T C U k s e))), some (.int (nI k))]) (sk' := [.int (st.1 45 0), .int (nI k)]) (st' := st) (fun _ h => h) ?_
      rw [hP.1]
      refine w_cmp_ge rfl (fun hno => absurd hno (nI_ge hk2 (by omega))) (fun _ => ?_)
      refine w_blk 3 (pc' := 20) (ls' := [some (.ref 45), some (.int (nI s)), some (.int (nI e)), some (.int (nI (wd T C U k s e))), some (.int (nI k))]) (sk' := [.int (nI k), .ref 46]) (st' := st) (fun _ h => h) ?_
      refine w_callS (As := [.ref 46, .int (nI k)]) (rest := []) rfl rfl rfl (Nat.le_of_ble_eq_true rfl) (Nat.le_of_ble_eq_true rfl) (c_cellK (d + 0) 46 8 k st (by omega) (by decide) rfl) ?_
      rw [(hP.2 k (by omega)).1]
      refine w_blk 1 (pc' := 24) (ls' := [some (.ref 45), some (.int (nI s)), some (.int (nI e)), some (.int (nI (wd T C U k s e))), some (.int (nI k))]) (sk' := [.int (nI s), .int (nI (T k))]) (st' := st) (fun _ h => h) ?_
      refine w_cmp_lt rfl (fun h1 => ?_) (fun h1 => ?_)
      · replace h1 : T k < s := (nI_ltI (a := (T k)) (b := s) (by omega) (by omega)).mp h1
        refine w_blk 1 (pc' := 55) (ls' := [some (.ref 45), some (.int (nI s)), some (.int (nI e)), some (.int (nI (wd T C U k s e))), some (.int ((nI k) + 1))]) (sk' := []) (st' := st) (fun _ h => h) ?_
        rw [show ((nI k) + 1) = nI (k + 1) from nI_add k 1]
        refine w_blk 1 (pc' := 5) (ls' := [some (.ref 45), some (.int (nI s)), some (.int (nI e)), some (.int (nI (wd T C U k s e))), some (.int (nI (k + 1)))]) (sk' := []) (st' := st) (fun _ h => h) ?_
        exact (by have hh := ih (k + 1) (by omega); rw [show wd T C U (k + 1) s e = wd T C U k s e from (congrArg (wd T C U k s e + ·) (if_neg (by omega))).trans (Nat.add_zero _)] at hh; exact hh)
      · replace h1 : ¬ (T k < s) := fun hh => h1 ((nI_ltI (a := (T k)) (b := s) (by omega) (by omega)).mpr hh)
        refine w_blk 3 (pc' := 33) (ls' := [some (.ref 45), some (.int (nI s)), some (.int (nI e)), some (.int (nI (wd T C U k s e))), some (.int (nI k))]) (sk' := [.int (nI k), .ref 48]) (st' := st) (fun _ h => h) ?_
        refine w_callS (As := [.ref 48, .int (nI k)]) (rest := []) rfl rfl rfl (Nat.le_of_ble_eq_true rfl) (Nat.le_of_ble_eq_true rfl) (c_cellK (d + 0) 48 8 k st (by omega) (by decide) rfl) ?_
        rw [(hP.2 k (by omega)).2.2]
        refine w_blk 1 (pc' := 37) (ls' := [some (.ref 45), some (.int (nI s)), some (.int (nI e)), some (.int (nI (wd T C U k s e))), some (.int (nI k))]) (sk' := [.int (nI e), .int (nI (U k))]) (st' := st) (fun _ h => h) ?_
        refine w_cmp_gt rfl (fun h2 => ?_) (fun h2 => ?_)
        · replace h2 : e < U k := (nI_ltI (a := e) (b := (U k)) (by omega) (by omega)).mp h2
          refine w_blk 1 (pc' := 55) (ls' := [some (.ref 45), some (.int (nI s)), some (.int (nI e)), some (.int (nI (wd T C U k s e))), some (.int ((nI k) + 1))]) (sk' := []) (st' := st) (fun _ h => h) ?_
          rw [show ((nI k) + 1) = nI (k + 1) from nI_add k 1]
          refine w_blk 1 (pc' := 5) (ls' := [some (.ref 45), some (.int (nI s)), some (.int (nI e)), some (.int (nI (wd T C U k s e))), some (.int (nI (k + 1)))]) (sk' := []) (st' := st) (fun _ h => h) ?_
          exact (by have hh := ih (k + 1) (by omega); rw [show wd T C U (k + 1) s e = wd T C U k s e from (congrArg (wd T C U k s e + ·) (if_neg (by omega))).trans (Nat.add_zero _)] at hh; exact hh)
        · replace h2 : ¬ (e < U k) := fun hh => h2 ((nI_ltI (a := e) (b := (U k)) (by omega) (by omega)).mpr hh)
          refine w_blk 4 (pc' := 47) (ls' := [some (.ref 45), some (.int (nI s)), some (.int (nI e)), some (.int (nI (wd T C U k s e))), some (.int (nI k))]) (sk' := [.int (nI k), .ref 47, .int (nI (wd T C U k s e))]) (st' := st) (fun _ h => h) ?_
          refine w_callS (As := [.ref 47, .int (nI k)]) (rest := [.int (nI (wd T C U k s e))]) rfl rfl rfl (Nat.le_of_ble_eq_true rfl) (Nat.le_of_ble_eq_true rfl) (c_cellK (d + 0) 47 8 k st (by omega) (by decide) rfl) ?_
          rw [(hP.2 k (by omega)).2.1]
          refine w_blk 1 (pc' := 51) (ls' := [some (.ref 45), some (.int (nI s)), some (.int (nI e)), some (.int (nI (wd T C U k s e))), some (.int (nI k))]) (sk' := [.int ((nI (wd T C U k s e)) + (nI (C k)))]) (st' := st) (fun _ h => h) ?_
          rw [show ((nI (wd T C U k s e)) + (nI (C k))) = nI ((wd T C U k s e) + (C k)) from nI_add (wd T C U k s e) (C k)]
          refine w_blk 2 (pc' := 55) (ls' := [some (.ref 45), some (.int (nI s)), some (.int (nI e)), some (.int (nI ((wd T C U k s e) + (C k)))), some (.int ((nI k) + 1))]) (sk' := []) (st' := st) (fun _ h => h) ?_
          rw [show ((nI k) + 1) = nI (k + 1) from nI_add k 1]
          refine w_blk 1 (pc' := 5) (ls' := [some (.ref 45), some (.int (nI s)), some (.int (nI e)), some (.int (nI ((wd T C U k s e) + (C k)))), some (.int (nI (k + 1)))]) (sk' := []) (st' := st) (fun _ h => h) ?_
          exact (by have hh := ih (k + 1) (by omega); rw [show wd T C U (k + 1) s e = (wd T C U k s e) + (C k) from congrArg (wd T C U k s e + ·) (if_pos ⟨by omega, by omega⟩)] at hh; exact hh)
  exact key (a - 0) 0 (by omega)
set_option maxRecDepth 20000 in
/-- leastClods() -/
theorem c_least (d : Nat) (a : Nat) (T C U : Nat → Nat) (st : mSt) (hP : XH st a T C U) (hH : HBd a T C U) : mMC mT (d + 3) 40 [.ref 45] st (some (.int (nI (lci T C U a a)))) st := by
  refine mI_X3_leastClods (d := d + 2) (Nat.le_of_ble_eq_true rfl) (fun Q hq => ?_)
  show mW (mMC mT (d + 2)) (0, fun _ => 0) (mAtL P_X3_leastClods) (some .int) Q 0 [some (.ref 45), none, none, none] [] st
  have ha8 := hH.1
  refine w_blk 4 (pc' := 4) (ls' := [some (.ref 45), some (.int 1), some (.int 0), none]) (sk' := []) (st' := st) (fun _ h => h) ?_
  suffices key : ∀ (m i : Nat) (l3 : Option Value), i + m = a → mW (mMC mT (d + 2)) (0, fun _ => 0) (mAtL P_X3_leastClods) (some .int) Q 4 [some (.ref 45), some (.int (nI (lci T C U a i))), some (.int (nI i)), l3] [] st from key a 0 none (by omega)
  intro m
  induction m with
  | zero =>
    intro i l3 hi
    obtain rfl : a = i := by omega
    refine w_blk 3 (pc' := 9) (ls' := [some (.ref 45), some (.int (nI (lci T C U a a))), some (.int (nI a)), l3]) (sk' := [.int (st.1 45 0), .int (nI a)]) (st' := st) (fun _ h => h) ?_
    rw [hP.1]
    refine w_cmp_ge rfl (fun _ => ?_) (fun hno => absurd (Int32.le_refl _) hno)
    refine w_blk 1 (pc' := 60) (ls' := [some (.ref 45), some (.int (nI (lci T C U a a))), some (.int (nI a)), l3]) (sk' := [.int (nI (lci T C U a a))]) (st' := st) (fun _ h => h) ?_
    exact w_iret rfl rfl rfl hq
  | succ m ih =>
    intro i l3 hi
    have hi2 : i < a := by omega
    have hHi := hH.2 i hi2
    have hli := lci_bd hH i
    refine w_blk 3 (pc' := 9) (ls' := [some (.ref 45), some (.int (nI (lci T C U a i))), some (.int (nI i)), l3]) (sk' := [.int (st.1 45 0), .int (nI i)]) (st' := st) (fun _ h => h) ?_
    rw [hP.1]
    refine w_cmp_ge rfl (fun hno => absurd hno (nI_ge hi2 (by omega))) (fun _ => ?_)
    refine w_blk 2 (pc' := 14) (ls' := [some (.ref 45), some (.int (nI (lci T C U a i))), some (.int (nI i)), some (.int 0)]) (sk' := []) (st' := st) (fun _ h => h) ?_
    have key2 : ∀ (m j : Nat), j + m = a → mW (mMC mT (d + 2)) (0, fun _ => 0) (mAtL P_X3_leastClods) (some .int) Q 14 [some (.ref 45), some (.int (nI (lcj T C U a (lci T C U a i) i j))), some (.int (nI i)), some (.int (nI j))] [] st := by
      intro m
      induction m with
      | zero =>
        intro j hj
        obtain rfl : a = j := by omega
        refine w_blk 3 (pc' := 19) (ls' := [some (.ref 45), some (.int (nI (lcj T C U a (lci T C U a i) i a))), some (.int (nI i)), some (.int (nI a))]) (sk' := [.int (st.1 45 0), .int (nI a)]) (st' := st) (fun _ h => h) ?_
        rw [hP.1]
        refine w_cmp_ge rfl (fun _ => ?_) (fun hno => absurd (Int32.le_refl _) hno)
        refine w_blk 1 (pc' := 56) (ls' := [some (.ref 45), some (.int (nI (lcj T C U a (lci T C U a i) i a))), some (.int ((nI i) + 1)), some (.int (nI a))]) (sk' := []) (st' := st) (fun _ h => h) ?_
        rw [show ((nI i) + 1) = nI (i + 1) from nI_add i 1]
        refine w_blk 1 (pc' := 4) (ls' := [some (.ref 45), some (.int (nI (lcj T C U a (lci T C U a i) i a))), some (.int (nI (i + 1))), some (.int (nI a))]) (sk' := []) (st' := st) (fun _ h => h) ?_
        exact ih (i + 1) _ (by omega)
      | succ m ih2 =>
        intro j hj
        have hj2 : j < a := by omega
        have hHj := hH.2 j hj2
        have hlj := lcj_bd hH hli (i := i) j
        have hnb := nd_bd hH (T i) (U j)
        refine w_blk 3 (pc' := 19) (ls' := [some (.ref 45), some (.int (nI (lcj T C U a (lci T C U a i) i j))), some (.int (nI i)), some (.int (nI j))]) (sk' := [.int (st.1 45 0), .int (nI j)]) (st' := st) (fun _ h => h) ?_
        rw [hP.1]
        refine w_cmp_ge rfl (fun hno => absurd hno (nI_ge hj2 (by omega))) (fun _ => ?_)
        refine w_blk 5 (pc' := 29) (ls' := [some (.ref 45), some (.int (nI (lcj T C U a (lci T C U a i) i j))), some (.int (nI i)), some (.int (nI j))]) (sk' := [.int (nI i), .ref 46, .ref 45, .int (nI (lcj T C U a (lci T C U a i) i j))]) (st' := st) (fun _ h => h) ?_
        refine w_callS (As := [.ref 46, .int (nI i)]) (rest := [.ref 45, .int (nI (lcj T C U a (lci T C U a i) i j))]) rfl rfl rfl (Nat.le_of_ble_eq_true rfl) (Nat.le_of_ble_eq_true rfl) (c_cellK (d + 1) 46 8 i st (by omega) (by decide) rfl) ?_
        rw [(hP.2 i (by omega)).1]
        refine w_blk 3 (pc' := 37) (ls' := [some (.ref 45), some (.int (nI (lcj T C U a (lci T C U a i) i j))), some (.int (nI i)), some (.int (nI j))]) (sk' := [.int (nI j), .ref 48, .int (nI (T i)), .ref 45, .int (nI (lcj T C U a (lci T C U a i) i j))]) (st' := st) (fun _ h => h) ?_
        refine w_callS (As := [.ref 48, .int (nI j)]) (rest := [.int (nI (T i)), .ref 45, .int (nI (lcj T C U a (lci T C U a i) i j))]) rfl rfl rfl (Nat.le_of_ble_eq_true rfl) (Nat.le_of_ble_eq_true rfl) (c_cellK (d + 1) 48 8 j st (by omega) (by decide) rfl) ?_
        rw [(hP.2 j (by omega)).2.2]
        refine w_callV (As := [.ref 45, .int (nI (T i)), .int (nI (U j))]) (rest := [.int (nI (lcj T C U a (lci T C U a i) i j))]) rfl rfl rfl (Nat.le_of_ble_eq_true rfl) (Nat.le_of_ble_eq_true rfl) (by first | exact Or.inl ⟨rfl, rfl⟩ | exact Or.inr ⟨rfl, rfl⟩) (c_needed (d + 0) a T C U (T i) (U j) st hP hH (by omega) (by omega)) ?_
        refine w_callS (As := [.int (nI (lcj T C U a (lci T C U a i) i j)), .int (nI (nd T C U a (T i) (U j)))]) (rest := []) rfl rfl rfl (Nat.le_of_ble_eq_true rfl) (Nat.le_of_ble_eq_true rfl) (c_maxK (d + 1) (lcj T C U a (lci T C U a i) i j) (nd T C U a (T i) (U j)) st (by omega) (by omega)) ?_
        refine w_blk 2 (pc' := 50) (ls' := [some (.ref 45), some (.int (nI (max (lcj T C U a (lci T C U a i) i j) (nd T C U a (T i) (U j))))), some (.int (nI i)), some (.int ((nI j) + 1))]) (sk' := []) (st' := st) (fun _ h => h) ?_
        rw [show ((nI j) + 1) = nI (j + 1) from nI_add j 1]
        refine w_blk 1 (pc' := 14) (ls' := [some (.ref 45), some (.int (nI (max (lcj T C U a (lci T C U a i) i j) (nd T C U a (T i) (U j))))), some (.int (nI i)), some (.int (nI (j + 1)))]) (sk' := []) (st' := st) (fun _ h => h) ?_
        exact ih2 (j + 1) (by omega)
    exact key2 a 0 (by omega)
def sp_night (a : Nat) (T C U : Nat → Nat) (q : Int32) : Int32 := if 1 ≤ q ∧ q ≤ 99 then pI (lci T C U a a ≤ q.toNatClampNeg) else -1
def sp_least (a : Nat) (T C U : Nat → Nat) : Int32 := if lci T C U a a ≤ 99 then nI (lci T C U a a) else -9
set_option maxRecDepth 20000 in
/-- night -/
theorem x_night (d : Nat) (a : Nat) (T C U : Nat → Nat) (q : Int32) (st : mSt) (hP : XH st a T C U) (hH : HBd a T C U) : mMC mT (d + 4) 104 [.ref 0, .int q] st (some (.int (sp_night a T C U q))) st := by
  refine mI_X9_night (d := d + 3) (Nat.le_of_ble_eq_true rfl) (fun Q hq => ?_)
  show mW (mMC mT (d + 3)) (0, fun _ => 0) (mAtL P_X9_night) (some .int) Q 0 [some (.ref 0), some (.int q)] [] st
  have hlb := lci_bd hH a
  refine w_blk 3 (pc' := 4) (ls' := [some (.ref 0), some (.int q)]) (sk' := [.int 99, .int 1, .int q]) (st' := st) (fun _ h => h) ?_
  refine w_callS (As := [.int q, .int 1, .int 99]) (rest := []) rfl rfl rfl (Nat.le_of_ble_eq_true rfl) (Nat.le_of_ble_eq_true rfl) (c_within (d + 2) q 1 99 st) ?_
  refine w_if_eq rfl (fun h1 => ?_) (fun h1 => ?_)
  · replace h1 := pI_eq0.mp h1
    refine w_blk 1 (pc' := 33) (ls' := [some (.ref 0), some (.int q)]) (sk' := [.int (-1)]) (st' := st) (fun _ h => h) ?_
    rw [show sp_night a T C U q = (-1) from if_neg h1] at hq
    exact w_iret rfl rfl rfl hq
  · replace h1 := pI_ne.mp h1
    have hok : 1 ≤ q ∧ q ≤ 99 := h1
    obtain ⟨k, hk1, hk2, rfl⟩ := nI_within (a := 1) (b := 99) h1 (by decide) (by decide)
    rw [show sp_night a T C U (nI k) = pI (lci T C U a a ≤ k) from (if_pos hok).trans (by rw [nI_clamp (show k < 2 ^ 31 by omega)])] at hq
    refine w_blk 2 (pc' := 14) (ls' := [some (.ref 0), some (.int (nI k))]) (sk' := [.ref 45]) (st' := st) (fun _ h => h) ?_
    refine w_callV (As := [.ref 45]) (rest := []) rfl rfl rfl (Nat.le_of_ble_eq_true rfl) (Nat.le_of_ble_eq_true rfl) (by first | exact Or.inl ⟨rfl, rfl⟩ | exact Or.inr ⟨rfl, rfl⟩) (c_least (d + 0) a T C U st hP hH) ?_
    refine w_blk 1 (pc' := 18) (ls' := [some (.ref 0), some (.int (nI k))]) (sk' := [.int (nI k), .int (nI (lci T C U a a))]) (st' := st) (fun _ h => h) ?_
    refine w_cmp_gt rfl (fun h2 => ?_) (fun h2 => ?_)
    · replace h2 : k < lci T C U a a := (nI_ltI (a := k) (b := (lci T C U a a)) (by omega) (by omega)).mp h2
      refine w_blk 1 (pc' := 26) (ls' := [some (.ref 0), some (.int (nI k))]) (sk' := [.int 0]) (st' := st) (fun _ h => h) ?_
      refine w_callS (As := [.int 0]) (rest := []) rfl rfl rfl (Nat.le_of_ble_eq_true rfl) (Nat.le_of_ble_eq_true rfl) (c_asNumber (d + 2) 0 st) ?_
      refine w_blk 1 (pc' := 33) (ls' := [some (.ref 0), some (.int (nI k))]) (sk' := [.int (if 0 = 0 then 0 else 1)]) (st' := st) (fun _ h => h) ?_
      rw [pI_f (by omega)] at hq
      exact w_iret rfl rfl rfl hq
    · replace h2 : ¬ (k < lci T C U a a) := fun hh => h2 ((nI_ltI (a := k) (b := (lci T C U a a)) (by omega) (by omega)).mpr hh)
      refine w_blk 2 (pc' := 26) (ls' := [some (.ref 0), some (.int (nI k))]) (sk' := [.int 1]) (st' := st) (fun _ h => h) ?_
      refine w_callS (As := [.int 1]) (rest := []) rfl rfl rfl (Nat.le_of_ble_eq_true rfl) (Nat.le_of_ble_eq_true rfl) (c_asNumber (d + 2) 1 st) ?_
      refine w_blk 1 (pc' := 33) (ls' := [some (.ref 0), some (.int (nI k))]) (sk' := [.int (if 1 = 0 then 0 else 1)]) (st' := st) (fun _ h => h) ?_
      rw [pI_t (by omega)] at hq
      exact w_iret rfl rfl rfl hq
set_option maxRecDepth 20000 in
/-- least -/
theorem x_least (d : Nat) (a : Nat) (T C U : Nat → Nat) (st : mSt) (hP : XH st a T C U) (hH : HBd a T C U) : mMC mT (d + 4) 105 [.ref 0] st (some (.int (sp_least a T C U))) st := by
  refine mI_X9_least (d := d + 3) (Nat.le_of_ble_eq_true rfl) (fun Q hq => ?_)
  show mW (mMC mT (d + 3)) (0, fun _ => 0) (mAtL P_X9_least) (some .int) Q 0 [some (.ref 0), none] [] st
  have hlb := lci_bd hH a
  refine w_blk 2 (pc' := 4) (ls' := [some (.ref 0), none]) (sk' := [.ref 45]) (st' := st) (fun _ h => h) ?_
  refine w_callV (As := [.ref 45]) (rest := []) rfl rfl rfl (Nat.le_of_ble_eq_true rfl) (Nat.le_of_ble_eq_true rfl) (by first | exact Or.inl ⟨rfl, rfl⟩ | exact Or.inr ⟨rfl, rfl⟩) (c_least (d + 0) a T C U st hP hH) ?_
  refine w_blk 3 (pc' := 11) (ls' := [some (.ref 0), some (.int (nI (lci T C U a a)))]) (sk' := [.int 99, .int (nI (lci T C U a a))]) (st' := st) (fun _ h => h) ?_
  refine w_cmp_gt rfl (fun h2 => ?_) (fun h2 => ?_)
  · replace h2 : 99 < lci T C U a a := (nI_ltI (a := 99) (b := (lci T C U a a)) (by omega) (by omega)).mp h2
    refine w_blk 1 (pc' := 20) (ls' := [some (.ref 0), some (.int (nI (lci T C U a a)))]) (sk' := [.int (-9)]) (st' := st) (fun _ h => h) ?_
    rw [show sp_least a T C U = (-9) from if_neg (by omega)] at hq
    exact w_iret rfl rfl rfl hq
  · replace h2 : ¬ (99 < lci T C U a a) := fun hh => h2 ((nI_ltI (a := 99) (b := (lci T C U a a)) (by omega) (by omega)).mpr hh)
    refine w_blk 2 (pc' := 20) (ls' := [some (.ref 0), some (.int (nI (lci T C U a a)))]) (sk' := [.int (nI (lci T C U a a))]) (st' := st) (fun _ h => h) ?_
    rw [show sp_least a T C U = (nI (lci T C U a a)) from if_pos (by omega)] at hq
    exact w_iret rfl rfl rfl hq
def nhO (T U o : Nat → Nat) (b : Nat) : Nat → Option Nat
  | 0 => none
  | k + 1 => if 0 < o k ∧ T k ≤ b ∧ b < U k then (match nhO T U o b k with | none => some k | some f => if U k < U f then some k else some f) else nhO T U o b k
def eO : Option Nat → Int32
  | none => -9
  | some f => nI f
theorem nhO_no {T U o : Nat → Nat} {b k : Nat} (h : ¬ (0 < o k ∧ T k ≤ b ∧ b < U k)) : nhO T U o b (k + 1) = nhO T U o b k := if_neg h
theorem nhO_new {T U o : Nat → Nat} {b k : Nat} (h : 0 < o k ∧ T k ≤ b ∧ b < U k) (e : nhO T U o b k = none) : nhO T U o b (k + 1) = some k := by
  show (if 0 < o k ∧ T k ≤ b ∧ b < U k then (match nhO T U o b k with | none => some k | some f => if U k < U f then some k else some f) else nhO T U o b k) = _
  rw [if_pos h, e]
theorem nhO_les {T U o : Nat → Nat} {b k f : Nat} (h : 0 < o k ∧ T k ≤ b ∧ b < U k) (e : nhO T U o b k = some f) (hu : U k < U f) : nhO T U o b (k + 1) = some k := by
  show (if 0 < o k ∧ T k ≤ b ∧ b < U k then (match nhO T U o b k with | none => some k | some f => if U k < U f then some k else some f) else nhO T U o b k) = _
  rw [if_pos h, e]
  exact if_pos hu
theorem nhO_ge {T U o : Nat → Nat} {b k f : Nat} (h : 0 < o k ∧ T k ≤ b ∧ b < U k) (e : nhO T U o b k = some f) (hu : ¬ U k < U f) : nhO T U o b (k + 1) = some f := by
  show (if 0 < o k ∧ T k ≤ b ∧ b < U k then (match nhO T U o b k with | none => some k | some f => if U k < U f then some k else some f) else nhO T U o b k) = _
  rw [if_pos h, e]
  exact if_neg hu
theorem nhO_spec {T U o : Nat → Nat} {b : Nat} : ∀ a, (nhO T U o b a = none → ∀ k, k < a → ¬ avl T U o b k) ∧ ∀ f, nhO T U o b a = some f → f < a ∧ avl T U o b f ∧ ∀ k, k < a → avl T U o b k → U f ≤ U k := by
  intro a
  induction a with
  | zero => exact ⟨fun _ k hk => absurd hk (Nat.not_lt_zero _), fun f hf => nomatch hf⟩
  | succ a ih =>
    by_cases h : 0 < o a ∧ T a ≤ b ∧ b < U a
    · rcases e : nhO T U o b a with _ | f
      · rw [nhO_new h e]
        refine ⟨fun hh => (nomatch hh), fun f hf => ?_⟩
        obtain rfl : a = f := Option.some.inj hf
        refine ⟨by omega, h, fun k hk hav => ?_⟩
        by_cases ek : k = a
        · subst ek
          exact Nat.le_refl _
        · exact absurd hav (ih.1 e k (by omega))
      · obtain ⟨i1, i2, i3⟩ := ih.2 f e
        by_cases hu : U a < U f
        · rw [nhO_les h e hu]
          refine ⟨fun hh => (nomatch hh), fun g hg => ?_⟩
          obtain rfl : a = g := Option.some.inj hg
          refine ⟨by omega, h, fun k hk hav => ?_⟩
          by_cases ek : k = a
          · subst ek
            exact Nat.le_refl _
          · have := i3 k (by omega) hav
            omega
        · rw [nhO_ge h e hu]
          refine ⟨fun hh => (nomatch hh), fun g hg => ?_⟩
          obtain rfl : f = g := Option.some.inj hg
          refine ⟨by omega, i2, fun k hk hav => ?_⟩
          by_cases ek : k = a
          · subst ek
            omega
          · exact i3 k (by omega) hav
    · rw [nhO_no h]
      refine ⟨fun hh k hk hav => ?_, fun f hf => ?_⟩
      · by_cases ek : k = a
        · subst ek
          exact h hav
        · exact ih.1 hh k (by omega) hav
      · obtain ⟨i1, i2, i3⟩ := ih.2 f hf
        refine ⟨by omega, i2, fun k hk hav => ?_⟩
        by_cases ek : k = a
        · subst ek
          exact absurd hav h
        · exact i3 k (by omega) hav
set_option maxRecDepth 20000 in
/-- nextHole(b) -/
theorem m_nextHole (d : Nat) (a : Nat) (T C U : Nat → Nat) (o : Nat → Nat) (b : Nat) (st : mSt) (hP : MH st a T C U) (hH : HBd a T C U) (hO : ∀ k, k < a → st.1 82 k = nI (o k)) (ho : ∀ k, k < a → o k ≤ 99) (hb : b ≤ 200) : mMC mT (d + 1) 176 [.ref 53, .int (nI b)] st (some (.int (eO (nhO T U o b a)))) st := by
  refine mI_X10_nextHole (d := d + 0) (Nat.le_of_ble_eq_true rfl) (fun Q hq => ?_)
  show mW (mMC mT (d + 0)) (0, fun _ => 0) (mAtL P_X10_nextHole) (some .int) Q 0 [some (.ref 53), some (.int (nI b)), none, none, none] [] st
  have ha8 := hH.1
  refine w_blk 4 (pc' := 5) (ls' := [some (.ref 53), some (.int (nI b)), some (.int (-9)), some (.int 0), none]) (sk' := []) (st' := st) (fun _ h => h) ?_
  have key : ∀ (m k : Nat), k + m = a → ∀ (l4 : Option Value), mW (mMC mT (d + 0)) (0, fun _ => 0) (mAtL P_X10_nextHole) (some .int) Q 5 [some (.ref 53), some (.int (nI b)), some (.int (eO (nhO T U o b k))), some (.int (nI k)), l4] [] st := by
    intro m
    induction m with
    | zero =>
      intro k hk l4
      obtain rfl : a = k := by omega
      refine w_blk 3 (pc' := 10) (ls' := [some (.ref 53), some (.int (nI b)), some (.int (eO (nhO T U o b a))), some (.int (nI a)), l4]) (sk' := [.int (st.1 53 33), .int (nI a)]) (st' := st) (fun _ h => h) ?_
      rw [hP.1]
      refine w_cmp_ge rfl (fun _ => ?_) (fun hno => absurd (Int32.le_refl _) hno)
      refine w_blk 1 (pc' := 88) (ls' := [some (.ref 53), some (.int (nI b)), some (.int (eO (nhO T U o b a))), some (.int (nI a)), l4]) (sk' := [.int (eO (nhO T U o b a))]) (st' := st) (fun _ h => h) ?_
      exact w_iret rfl rfl rfl hq
    | succ m ih =>
      intro k hk l4
      have hk2 : k < a := by omega
      have hHk := hH.2 k hk2
      have hok := ho k hk2
      rcases e : nhO T U o b k with _ | f
      · show mW (mMC mT (d + 0)) (0, fun _ => 0) (mAtL P_X10_nextHole) (some .int) Q 5 [some (.ref 53), some (.int (nI b)), some (.int (-9)), some (.int (nI k)), l4] [] st
        refine w_blk 3 (pc' := 10) (ls' := [some (.ref 53), some (.int (nI b)), some (.int (-9)), some (.int (nI k)), l4]) (sk' := [.int (st.1 53 33), .int (nI k)]) (st' := st) (fun _ h => h) ?_
        rw [hP.1]
        refine w_cmp_ge rfl (fun hno => absurd hno (nI_ge hk2 (by omega))) (fun _ => ?_)
        refine w_blk 3 (pc' := 18) (ls' := [some (.ref 53), some (.int (nI b)), some (.int (-9)), some (.int (nI k)), l4]) (sk' := [.int (nI k), .ref 82]) (st' := st) (fun _ h => h) ?_
        refine w_iald rfl rfl (vp_in_nI (n := k) (N := 8) (by omega) (by decide)) ?_
        rw [nI_clamp (show k < 2 ^ 31 by omega)]
        rw [hO k (by omega)]
        refine w_if_le rfl (fun h1 => ?_) (fun h1 => ?_)
        · replace h1 : o k ≤ 0 := (nI_leI (a := (o k)) (b := 0) (by omega) (by omega)).mp h1
          refine w_blk 3 (pc' := 51) (ls' := [some (.ref 53), some (.int (nI b)), some (.int (-9)), some (.int (nI k)), some (.int 0)]) (sk' := [.int 0]) (st' := st) (fun _ h => h) ?_
          refine w_if_eq rfl (fun _ => ?_) (fun hno => absurd (by decide) hno)
          refine w_blk 3 (pc' := 84) (ls' := [some (.ref 53), some (.int (nI b)), some (.int (-9)), some (.int ((nI k) + 1)), some (.int 0)]) (sk' := []) (st' := st) (fun _ h => h) ?_
          rw [show ((nI k) + 1) = nI (k + 1) from nI_add k 1]
          refine w_blk 1 (pc' := 5) (ls' := [some (.ref 53), some (.int (nI b)), some (.int (-9)), some (.int (nI (k + 1))), some (.int 0)]) (sk' := []) (st' := st) (fun _ h => h) ?_
          exact (by have hh := ih (k + 1) (by omega) (some (.int 0)); rw [show eO (nhO T U o b (k + 1)) = (-9) from by first | exact congrArg eO ((nhO_no (by omega)).trans e) | exact congrArg eO (nhO_new ⟨by omega, by omega, by omega⟩ e) | exact congrArg eO (nhO_les ⟨by omega, by omega, by omega⟩ e (by omega)) | exact congrArg eO (nhO_ge ⟨by omega, by omega, by omega⟩ e (by omega))] at hh; exact hh)
        · replace h1 : ¬ (o k ≤ 0) := fun hh => h1 ((nI_leI (a := (o k)) (b := 0) (by omega) (by omega)).mpr hh)
          refine w_blk 3 (pc' := 27) (ls' := [some (.ref 53), some (.int (nI b)), some (.int (-9)), some (.int (nI k)), l4]) (sk' := [.int (nI k), .ref 79]) (st' := st) (fun _ h => h) ?_
          refine w_iald rfl rfl (vp_in_nI (n := k) (N := 8) (by omega) (by decide)) ?_
          rw [nI_clamp (show k < 2 ^ 31 by omega)]
          rw [(hP.2 k (by omega)).1]
          refine w_blk 1 (pc' := 29) (ls' := [some (.ref 53), some (.int (nI b)), some (.int (-9)), some (.int (nI k)), l4]) (sk' := [.int (nI b), .int (nI (T k))]) (st' := st) (fun _ h => h) ?_
          refine w_cmp_gt rfl (fun h2 => ?_) (fun h2 => ?_)
          · replace h2 : b < T k := (nI_ltI (a := b) (b := (T k)) (by omega) (by omega)).mp h2
            refine w_blk 3 (pc' := 51) (ls' := [some (.ref 53), some (.int (nI b)), some (.int (-9)), some (.int (nI k)), some (.int 0)]) (sk' := [.int 0]) (st' := st) (fun _ h => h) ?_
            refine w_if_eq rfl (fun _ => ?_) (fun hno => absurd (by decide) hno)
            refine w_blk 3 (pc' := 84) (ls' := [some (.ref 53), some (.int (nI b)), some (.int (-9)), some (.int ((nI k) + 1)), some (.int 0)]) (sk' := []) (st' := st) (fun _ h => h) ?_
            rw [show ((nI k) + 1) = nI (k + 1) from nI_add k 1]
            refine w_blk 1 (pc' := 5) (ls' := [some (.ref 53), some (.int (nI b)), some (.int (-9)), some (.int (nI (k + 1))), some (.int 0)]) (sk' := []) (st' := st) (fun _ h => h) ?_
            exact (by have hh := ih (k + 1) (by omega) (some (.int 0)); rw [show eO (nhO T U o b (k + 1)) = (-9) from by first | exact congrArg eO ((nhO_no (by omega)).trans e) | exact congrArg eO (nhO_new ⟨by omega, by omega, by omega⟩ e) | exact congrArg eO (nhO_les ⟨by omega, by omega, by omega⟩ e (by omega)) | exact congrArg eO (nhO_ge ⟨by omega, by omega, by omega⟩ e (by omega))] at hh; exact hh)
          · replace h2 : ¬ (b < T k) := fun hh => h2 ((nI_ltI (a := b) (b := (T k)) (by omega) (by omega)).mpr hh)
            refine w_blk 4 (pc' := 38) (ls' := [some (.ref 53), some (.int (nI b)), some (.int (-9)), some (.int (nI k)), l4]) (sk' := [.int (nI k), .ref 81, .int (nI b)]) (st' := st) (fun _ h => h) ?_
            refine w_iald rfl rfl (vp_in_nI (n := k) (N := 8) (by omega) (by decide)) ?_
            rw [nI_clamp (show k < 2 ^ 31 by omega)]
            rw [(hP.2 k (by omega)).2.2]
            refine w_cmp_ge rfl (fun h3 => ?_) (fun h3 => ?_)
            · replace h3 : U k ≤ b := (nI_leI (a := (U k)) (b := b) (by omega) (by omega)).mp h3
              refine w_blk 3 (pc' := 51) (ls' := [some (.ref 53), some (.int (nI b)), some (.int (-9)), some (.int (nI k)), some (.int 0)]) (sk' := [.int 0]) (st' := st) (fun _ h => h) ?_
              refine w_if_eq rfl (fun _ => ?_) (fun hno => absurd (by decide) hno)
              refine w_blk 3 (pc' := 84) (ls' := [some (.ref 53), some (.int (nI b)), some (.int (-9)), some (.int ((nI k) + 1)), some (.int 0)]) (sk' := []) (st' := st) (fun _ h => h) ?_
              rw [show ((nI k) + 1) = nI (k + 1) from nI_add k 1]
              refine w_blk 1 (pc' := 5) (ls' := [some (.ref 53), some (.int (nI b)), some (.int (-9)), some (.int (nI (k + 1))), some (.int 0)]) (sk' := []) (st' := st) (fun _ h => h) ?_
              exact (by have hh := ih (k + 1) (by omega) (some (.int 0)); rw [show eO (nhO T U o b (k + 1)) = (-9) from by first | exact congrArg eO ((nhO_no (by omega)).trans e) | exact congrArg eO (nhO_new ⟨by omega, by omega, by omega⟩ e) | exact congrArg eO (nhO_les ⟨by omega, by omega, by omega⟩ e (by omega)) | exact congrArg eO (nhO_ge ⟨by omega, by omega, by omega⟩ e (by omega))] at hh; exact hh)
            · replace h3 : ¬ (U k ≤ b) := fun hh => h3 ((nI_leI (a := (U k)) (b := b) (by omega) (by omega)).mpr hh)
              refine w_blk 4 (pc' := 51) (ls' := [some (.ref 53), some (.int (nI b)), some (.int (-9)), some (.int (nI k)), some (.int 1)]) (sk' := [.int 1]) (st' := st) (fun _ h => h) ?_
              refine w_if_eq rfl (fun hno => absurd hno (by decide)) (fun _ => ?_)
              refine w_blk 2 (pc' := 57) (ls' := [some (.ref 53), some (.int (nI b)), some (.int (-9)), some (.int (nI k)), some (.int 1)]) (sk' := [.int (-9), .int (-9)]) (st' := st) (fun _ h => h) ?_
              refine w_cmp_eq rfl (fun _ => ?_) (fun hno => absurd rfl hno)
              refine w_blk 4 (pc' := 84) (ls' := [some (.ref 53), some (.int (nI b)), some (.int (nI k)), some (.int ((nI k) + 1)), some (.int 1)]) (sk' := []) (st' := st) (fun _ h => h) ?_
              rw [show ((nI k) + 1) = nI (k + 1) from nI_add k 1]
              refine w_blk 1 (pc' := 5) (ls' := [some (.ref 53), some (.int (nI b)), some (.int (nI k)), some (.int (nI (k + 1))), some (.int 1)]) (sk' := []) (st' := st) (fun _ h => h) ?_
              exact (by have hh := ih (k + 1) (by omega) (some (.int 1)); rw [show eO (nhO T U o b (k + 1)) = (nI k) from by first | exact congrArg eO ((nhO_no (by omega)).trans e) | exact congrArg eO (nhO_new ⟨by omega, by omega, by omega⟩ e) | exact congrArg eO (nhO_les ⟨by omega, by omega, by omega⟩ e (by omega)) | exact congrArg eO (nhO_ge ⟨by omega, by omega, by omega⟩ e (by omega))] at hh; exact hh)
      · obtain ⟨hfk, -, -⟩ := (nhO_spec (T := T) (U := U) (o := o) (b := b) k).2 f e
        have hHf := hH.2 f (by omega)
        show mW (mMC mT (d + 0)) (0, fun _ => 0) (mAtL P_X10_nextHole) (some .int) Q 5 [some (.ref 53), some (.int (nI b)), some (.int (nI f)), some (.int (nI k)), l4] [] st
        refine w_blk 3 (pc' := 10) (ls' := [some (.ref 53), some (.int (nI b)), some (.int (nI f)), some (.int (nI k)), l4]) (sk' := [.int (st.1 53 33), .int (nI k)]) (st' := st) (fun _ h => h) ?_
        rw [hP.1]
        refine w_cmp_ge rfl (fun hno => absurd hno (nI_ge hk2 (by omega))) (fun _ => ?_)
        refine w_blk 3 (pc' := 18) (ls' := [some (.ref 53), some (.int (nI b)), some (.int (nI f)), some (.int (nI k)), l4]) (sk' := [.int (nI k), .ref 82]) (st' := st) (fun _ h => h) ?_
        refine w_iald rfl rfl (vp_in_nI (n := k) (N := 8) (by omega) (by decide)) ?_
        rw [nI_clamp (show k < 2 ^ 31 by omega)]
        rw [hO k (by omega)]
        refine w_if_le rfl (fun h1 => ?_) (fun h1 => ?_)
        · replace h1 : o k ≤ 0 := (nI_leI (a := (o k)) (b := 0) (by omega) (by omega)).mp h1
          refine w_blk 3 (pc' := 51) (ls' := [some (.ref 53), some (.int (nI b)), some (.int (nI f)), some (.int (nI k)), some (.int 0)]) (sk' := [.int 0]) (st' := st) (fun _ h => h) ?_
          refine w_if_eq rfl (fun _ => ?_) (fun hno => absurd (by decide) hno)
          refine w_blk 3 (pc' := 84) (ls' := [some (.ref 53), some (.int (nI b)), some (.int (nI f)), some (.int ((nI k) + 1)), some (.int 0)]) (sk' := []) (st' := st) (fun _ h => h) ?_
          rw [show ((nI k) + 1) = nI (k + 1) from nI_add k 1]
          refine w_blk 1 (pc' := 5) (ls' := [some (.ref 53), some (.int (nI b)), some (.int (nI f)), some (.int (nI (k + 1))), some (.int 0)]) (sk' := []) (st' := st) (fun _ h => h) ?_
          exact (by have hh := ih (k + 1) (by omega) (some (.int 0)); rw [show eO (nhO T U o b (k + 1)) = (nI f) from by first | exact congrArg eO ((nhO_no (by omega)).trans e) | exact congrArg eO (nhO_new ⟨by omega, by omega, by omega⟩ e) | exact congrArg eO (nhO_les ⟨by omega, by omega, by omega⟩ e (by omega)) | exact congrArg eO (nhO_ge ⟨by omega, by omega, by omega⟩ e (by omega))] at hh; exact hh)
        · replace h1 : ¬ (o k ≤ 0) := fun hh => h1 ((nI_leI (a := (o k)) (b := 0) (by omega) (by omega)).mpr hh)
          refine w_blk 3 (pc' := 27) (ls' := [some (.ref 53), some (.int (nI b)), some (.int (nI f)), some (.int (nI k)), l4]) (sk' := [.int (nI k), .ref 79]) (st' := st) (fun _ h => h) ?_
          refine w_iald rfl rfl (vp_in_nI (n := k) (N := 8) (by omega) (by decide)) ?_
          rw [nI_clamp (show k < 2 ^ 31 by omega)]
          rw [(hP.2 k (by omega)).1]
          refine w_blk 1 (pc' := 29) (ls' := [some (.ref 53), some (.int (nI b)), some (.int (nI f)), some (.int (nI k)), l4]) (sk' := [.int (nI b), .int (nI (T k))]) (st' := st) (fun _ h => h) ?_
          refine w_cmp_gt rfl (fun h2 => ?_) (fun h2 => ?_)
          · replace h2 : b < T k := (nI_ltI (a := b) (b := (T k)) (by omega) (by omega)).mp h2
            refine w_blk 3 (pc' := 51) (ls' := [some (.ref 53), some (.int (nI b)), some (.int (nI f)), some (.int (nI k)), some (.int 0)]) (sk' := [.int 0]) (st' := st) (fun _ h => h) ?_
            refine w_if_eq rfl (fun _ => ?_) (fun hno => absurd (by decide) hno)
            refine w_blk 3 (pc' := 84) (ls' := [some (.ref 53), some (.int (nI b)), some (.int (nI f)), some (.int ((nI k) + 1)), some (.int 0)]) (sk' := []) (st' := st) (fun _ h => h) ?_
            rw [show ((nI k) + 1) = nI (k + 1) from nI_add k 1]
            refine w_blk 1 (pc' := 5) (ls' := [some (.ref 53), some (.int (nI b)), some (.int (nI f)), some (.int (nI (k + 1))), some (.int 0)]) (sk' := []) (st' := st) (fun _ h => h) ?_
            exact (by have hh := ih (k + 1) (by omega) (some (.int 0)); rw [show eO (nhO T U o b (k + 1)) = (nI f) from by first | exact congrArg eO ((nhO_no (by omega)).trans e) | exact congrArg eO (nhO_new ⟨by omega, by omega, by omega⟩ e) | exact congrArg eO (nhO_les ⟨by omega, by omega, by omega⟩ e (by omega)) | exact congrArg eO (nhO_ge ⟨by omega, by omega, by omega⟩ e (by omega))] at hh; exact hh)
          · replace h2 : ¬ (b < T k) := fun hh => h2 ((nI_ltI (a := b) (b := (T k)) (by omega) (by omega)).mpr hh)
            refine w_blk 4 (pc' := 38) (ls' := [some (.ref 53), some (.int (nI b)), some (.int (nI f)), some (.int (nI k)), l4]) (sk' := [.int (nI k), .ref 81, .int (nI b)]) (st' := st) (fun _ h => h) ?_
            refine w_iald rfl rfl (vp_in_nI (n := k) (N := 8) (by omega) (by decide)) ?_
            rw [nI_clamp (show k < 2 ^ 31 by omega)]
            rw [(hP.2 k (by omega)).2.2]
            refine w_cmp_ge rfl (fun h3 => ?_) (fun h3 => ?_)
            · replace h3 : U k ≤ b := (nI_leI (a := (U k)) (b := b) (by omega) (by omega)).mp h3
              refine w_blk 3 (pc' := 51) (ls' := [some (.ref 53), some (.int (nI b)), some (.int (nI f)), some (.int (nI k)), some (.int 0)]) (sk' := [.int 0]) (st' := st) (fun _ h => h) ?_
              refine w_if_eq rfl (fun _ => ?_) (fun hno => absurd (by decide) hno)
              refine w_blk 3 (pc' := 84) (ls' := [some (.ref 53), some (.int (nI b)), some (.int (nI f)), some (.int ((nI k) + 1)), some (.int 0)]) (sk' := []) (st' := st) (fun _ h => h) ?_
              rw [show ((nI k) + 1) = nI (k + 1) from nI_add k 1]
              refine w_blk 1 (pc' := 5) (ls' := [some (.ref 53), some (.int (nI b)), some (.int (nI f)), some (.int (nI (k + 1))), some (.int 0)]) (sk' := []) (st' := st) (fun _ h => h) ?_
              exact (by have hh := ih (k + 1) (by omega) (some (.int 0)); rw [show eO (nhO T U o b (k + 1)) = (nI f) from by first | exact congrArg eO ((nhO_no (by omega)).trans e) | exact congrArg eO (nhO_new ⟨by omega, by omega, by omega⟩ e) | exact congrArg eO (nhO_les ⟨by omega, by omega, by omega⟩ e (by omega)) | exact congrArg eO (nhO_ge ⟨by omega, by omega, by omega⟩ e (by omega))] at hh; exact hh)
            · replace h3 : ¬ (U k ≤ b) := fun hh => h3 ((nI_leI (a := (U k)) (b := b) (by omega) (by omega)).mpr hh)
              refine w_blk 4 (pc' := 51) (ls' := [some (.ref 53), some (.int (nI b)), some (.int (nI f)), some (.int (nI k)), some (.int 1)]) (sk' := [.int 1]) (st' := st) (fun _ h => h) ?_
              refine w_if_eq rfl (fun hno => absurd hno (by decide)) (fun _ => ?_)
              refine w_blk 2 (pc' := 57) (ls' := [some (.ref 53), some (.int (nI b)), some (.int (nI f)), some (.int (nI k)), some (.int 1)]) (sk' := [.int (-9), .int (nI f)]) (st' := st) (fun _ h => h) ?_
              refine w_cmp_eq rfl (fun hno => absurd hno (fun hh => absurd (congrArg Int32.toInt hh) (by rw [nI_toInt (by omega), show (-9 : Int32).toInt = -9 from rfl]; omega))) (fun _ => ?_)
              refine w_blk 3 (pc' := 65) (ls' := [some (.ref 53), some (.int (nI b)), some (.int (nI f)), some (.int (nI k)), some (.int 1)]) (sk' := [.int (nI k), .ref 81]) (st' := st) (fun _ h => h) ?_
              refine w_iald rfl rfl (vp_in_nI (n := k) (N := 8) (by omega) (by decide)) ?_
              rw [nI_clamp (show k < 2 ^ 31 by omega)]
              rw [(hP.2 k (by omega)).2.2]
              refine w_blk 3 (pc' := 71) (ls' := [some (.ref 53), some (.int (nI b)), some (.int (nI f)), some (.int (nI k)), some (.int 1)]) (sk' := [.int (nI f), .ref 81, .int (nI (U k))]) (st' := st) (fun _ h => h) ?_
              refine w_iald rfl rfl (vp_in_nI (n := f) (N := 8) (by omega) (by decide)) ?_
              rw [nI_clamp (show f < 2 ^ 31 by omega)]
              rw [(hP.2 f (by omega)).2.2]
              refine w_cmp_ge rfl (fun h4 => ?_) (fun h4 => ?_)
              · replace h4 : U f ≤ U k := (nI_leI (a := (U f)) (b := (U k)) (by omega) (by omega)).mp h4
                refine w_blk 3 (pc' := 84) (ls' := [some (.ref 53), some (.int (nI b)), some (.int (nI f)), some (.int ((nI k) + 1)), some (.int 1)]) (sk' := []) (st' := st) (fun _ h => h) ?_
                rw [show ((nI k) + 1) = nI (k + 1) from nI_add k 1]
                refine w_blk 1 (pc' := 5) (ls' := [some (.ref 53), some (.int (nI b)), some (.int (nI f)), some (.int (nI (k + 1))), some (.int 1)]) (sk' := []) (st' := st) (fun _ h => h) ?_
                exact (by have hh := ih (k + 1) (by omega) (some (.int 1)); rw [show eO (nhO T U o b (k + 1)) = (nI f) from by first | exact congrArg eO ((nhO_no (by omega)).trans e) | exact congrArg eO (nhO_new ⟨by omega, by omega, by omega⟩ e) | exact congrArg eO (nhO_les ⟨by omega, by omega, by omega⟩ e (by omega)) | exact congrArg eO (nhO_ge ⟨by omega, by omega, by omega⟩ e (by omega))] at hh; exact hh)
              · replace h4 : ¬ (U f ≤ U k) := fun hh => h4 ((nI_leI (a := (U f)) (b := (U k)) (by omega) (by omega)).mpr hh)
                refine w_blk 4 (pc' := 84) (ls' := [some (.ref 53), some (.int (nI b)), some (.int (nI k)), some (.int ((nI k) + 1)), some (.int 1)]) (sk' := []) (st' := st) (fun _ h => h) ?_
                rw [show ((nI k) + 1) = nI (k + 1) from nI_add k 1]
                refine w_blk 1 (pc' := 5) (ls' := [some (.ref 53), some (.int (nI b)), some (.int (nI k)), some (.int (nI (k + 1))), some (.int 1)]) (sk' := []) (st' := st) (fun _ h => h) ?_
                exact (by have hh := ih (k + 1) (by omega) (some (.int 1)); rw [show eO (nhO T U o b (k + 1)) = (nI k) from by first | exact congrArg eO ((nhO_no (by omega)).trans e) | exact congrArg eO (nhO_new ⟨by omega, by omega, by omega⟩ e) | exact congrArg eO (nhO_les ⟨by omega, by omega, by omega⟩ e (by omega)) | exact congrArg eO (nhO_ge ⟨by omega, by omega, by omega⟩ e (by omega))] at hh; exact hh)
  exact key (a - 0) 0 (by omega) none
set_option maxRecDepth 20000 in
/-- isClosed(q) -/
theorem m_isClosed (d : Nat) (a : Nat) (T C U : Nat → Nat) (q : Nat) (st : mSt) (hP : MH st a T C U) (hH : HBd a T C U) (hq1 : 1 ≤ q) (hq2 : q ≤ 99) : ∃ (s : mSt), mMC mT (d + 2) 177 [.ref 53, .int (nI q)] st (some (.int (pI (lci T C U a a ≤ q)))) s ∧ Fr [82] st s := by
  suffices H : ∀ Q : Option Value → mSt → Prop, (∀ (s : mSt), Fr [82] st s → Q (some (.int (pI (lci T C U a a ≤ q)))) s) → mW (mMC mT (d + 1)) (0, fun _ => 0) (mAtL P_X10_isClosed) (some .boolean) Q 0 [some (.ref 53), some (.int (nI q)), none, none, none, none] [] st by
    obtain ⟨_, _, ⟨s, rfl, rfl, hp⟩, hw⟩ := mW_ex (H (fun vv tt => ∃ (s : mSt),  vv = some (.int (pI (lci T C U a a ≤ q))) ∧ s = tt ∧ Fr [82] st s) (fun s hp => ⟨s, rfl, rfl, hp⟩))
    exact ⟨s, mI_X10_isClosed (d := d + 1) (Nat.le_of_ble_eq_true rfl) hw, hp⟩
  intro Q hq
  have ha8 := hH.1
  have hU : ∀ k, k < a → U k ≤ 200 := fun k hk => (hH.2 k hk).2.2.2.2
  have hPf : ∀ s0, Fr [82] st s0 → MH s0 a T C U := fun s0 hf => MH_fr hf (by decide) (by rw [hf.1 53 (by decide)]) hP
  have fin : ∀ (o : Nat → Nat) (s0 : mSt) (l4 l5 : Option Value), Fr [82] st s0 → (∀ k, k < a → s0.1 82 k = nI (o k)) → (∀ k, k < a → o k ≤ 99) → (cnd T U a q 200 o ↔ cnd T U a q 0 C) → ∀ (m k : Nat), k + m = a → mW (mMC mT (d + 1)) (0, fun _ => 0) (mAtL P_X10_isClosed) (some .boolean) Q 118 [some (.ref 53), some (.int (nI q)), some (.int (pI (sm o k = 0))), some (.int (nI k)), l4, l5] [] s0 := by
    intro o s0 l4 l5 hf hO ho hc m
    have hP0 := hPf s0 hf
    induction m with
    | zero =>
      intro k hk
      obtain rfl : a = k := by omega
      refine w_blk 3 (pc' := 123) (ls' := [some (.ref 53), some (.int (nI q)), some (.int (pI (sm o a = 0))), some (.int (nI a)), l4, l5]) (sk' := [.int (s0.1 53 33), .int (nI a)]) (st' := s0) (fun _ h => h) ?_
      rw [hP0.1]
      refine w_cmp_ge rfl (fun _ => ?_) (fun hno => absurd (Int32.le_refl _) hno)
      refine w_blk 1 (pc' := 152) (ls' := [some (.ref 53), some (.int (nI q)), some (.int (pI (sm o a = 0))), some (.int (nI a)), l4, l5]) (sk' := [.int (pI (sm o a = 0))]) (st' := s0) (fun _ h => h) ?_
      exact w_iret rfl rfl (nar_pI _) (by have hh := hq s0 hf; rw [show pI (lci T C U a a ≤ q) = pI (sm o a = 0) from pI_cong ((night_iff hU hq1 (by omega)).symm.trans (hc.symm.trans ((cnd_end hU).trans ⟨fun hh => sm_zero a hh, fun hh k hk => by have := sm_mem (f := o) a k hk; omega⟩)))] at hh; exact hh)
    | succ m ih =>
      intro k hk
      have hk2 : k < a := by omega
      have hok := ho k hk2
      refine w_blk 3 (pc' := 123) (ls' := [some (.ref 53), some (.int (nI q)), some (.int (pI (sm o k = 0))), some (.int (nI k)), l4, l5]) (sk' := [.int (s0.1 53 33), .int (nI k)]) (st' := s0) (fun _ h => h) ?_
      rw [hP0.1]
      refine w_cmp_ge rfl (fun hno => absurd hno (nI_ge hk2 (by omega))) (fun _ => ?_)
      refine w_blk 1 (pc' := 127) (ls' := [some (.ref 53), some (.int (nI q)), some (.int (pI (sm o k = 0))), some (.int (nI k)), l4, l5]) (sk' := [.int (pI (sm o k = 0))]) (st' := s0) (fun _ h => h) ?_
      refine w_if_eq rfl (fun h1 => ?_) (fun h1 => ?_)
      · replace h1 := pI_eq0.mp h1
        refine w_blk 3 (pc' := 148) (ls' := [some (.ref 53), some (.int (nI q)), some (.int 0), some (.int ((nI k) + 1)), l4, l5]) (sk' := []) (st' := s0) (fun _ h => h) ?_
        rw [show ((nI k) + 1) = nI (k + 1) from nI_add k 1]
        refine w_blk 1 (pc' := 118) (ls' := [some (.ref 53), some (.int (nI q)), some (.int 0), some (.int (nI (k + 1))), l4, l5]) (sk' := []) (st' := s0) (fun _ h => h) ?_
        exact (by have hh := ih (k + 1) (by omega); rw [show pI (sm o (k + 1) = 0) = 0 from pI_f (fun hh => by have h9 : sm o k + o k = 0 := hh; omega)] at hh; exact hh)
      · replace h1 := pI_ne.mp h1
        refine w_blk 3 (pc' := 135) (ls' := [some (.ref 53), some (.int (nI q)), some (.int (pI (sm o k = 0))), some (.int (nI k)), l4, l5]) (sk' := [.int (nI k), .ref 82]) (st' := s0) (fun _ h => h) ?_
        refine w_iald rfl rfl (vp_in_nI (n := k) (N := 8) (by omega) (by decide)) ?_
        rw [nI_clamp (show k < 2 ^ 31 by omega)]
        rw [hO k (by omega)]
        refine w_if_ne rfl (fun h2 => ?_) (fun h2 => ?_)
        · replace h2 : ¬ (o k = 0) := fun hh => h2 ((nI_eq (a := (o k)) (b := 0) (by omega) (by omega)).mpr hh)
          refine w_blk 3 (pc' := 148) (ls' := [some (.ref 53), some (.int (nI q)), some (.int 0), some (.int ((nI k) + 1)), l4, l5]) (sk' := []) (st' := s0) (fun _ h => h) ?_
          rw [show ((nI k) + 1) = nI (k + 1) from nI_add k 1]
          refine w_blk 1 (pc' := 118) (ls' := [some (.ref 53), some (.int (nI q)), some (.int 0), some (.int (nI (k + 1))), l4, l5]) (sk' := []) (st' := s0) (fun _ h => h) ?_
          exact (by have hh := ih (k + 1) (by omega); rw [show pI (sm o (k + 1) = 0) = 0 from pI_f (fun hh => by have h9 : sm o k + o k = 0 := hh; omega)] at hh; exact hh)
        · replace h2 : o k = 0 := (nI_eq (a := (o k)) (b := 0) (by omega) (by omega)).mp (Decidable.not_not.mp h2)
          refine w_blk 4 (pc' := 148) (ls' := [some (.ref 53), some (.int (nI q)), some (.int 1), some (.int ((nI k) + 1)), l4, l5]) (sk' := []) (st' := s0) (fun _ h => h) ?_
          rw [show ((nI k) + 1) = nI (k + 1) from nI_add k 1]
          refine w_blk 1 (pc' := 118) (ls' := [some (.ref 53), some (.int (nI q)), some (.int 1), some (.int (nI (k + 1))), l4, l5]) (sk' := []) (st' := s0) (fun _ h => h) ?_
          exact (by have hh := ih (k + 1) (by omega); rw [show pI (sm o (k + 1) = 0) = 1 from pI_t (show sm o k + o k = 0 by omega)] at hh; exact hh)
  have beats : ∀ (m b : Nat) (o : Nat → Nat) (s0 : mSt) (l3 l4 l5 : Option Value), b + m = 200 → Fr [82] st s0 → (∀ k, k < a → s0.1 82 k = nI (o k)) → (∀ k, k < a → o k ≤ 99) → (cnd T U a q b o ↔ cnd T U a q 0 C) → mW (mMC mT (d + 1)) (0, fun _ => 0) (mAtL P_X10_isClosed) (some .boolean) Q 30 [some (.ref 53), some (.int (nI q)), some (.int (nI b)), l3, l4, l5] [] s0 := by
    intro m
    induction m with
    | zero =>
      intro b o s0 l3 l4 l5 hb hf hO ho hc
      obtain rfl : b = 200 := by omega
      refine w_blk 2 (pc' := 34) (ls' := [some (.ref 53), some (.int (nI q)), some (.int (nI 200)), l3, l4, l5]) (sk' := [.int 200, .int (nI 200)]) (st' := s0) (fun _ h => h) ?_
      refine w_cmp_ge rfl (fun _ => ?_) (fun hno => absurd (Int32.le_refl _) hno)
      refine w_blk 4 (pc' := 118) (ls' := [some (.ref 53), some (.int (nI q)), some (.int 1), some (.int 0), l4, l5]) (sk' := []) (st' := s0) (fun _ h => h) ?_
      exact (by have hh := fin o s0 l4 l5 hf hO ho hc a 0 (by omega); rw [show (pI (sm o 0 = 0)) = 1 from pI_t rfl] at hh; exact hh)
    | succ m ih =>
      intro b o s0 l3 l4 l5 hb hf hO ho hc
      have hP0 := hPf s0 hf
      have out : ∀ (w : Nat) (o1 : Nat → Nat) (s1 : mSt) (l3 l4 l5 : Option Value), stepR T U a q b o o1 w → (w = 0 ∨ ∀ k, k < a → ¬ avl T U o1 b k) → Fr [82] st s1 → (∀ k, k < a → s1.1 82 k = nI (o1 k)) → mW (mMC mT (d + 1)) (0, fun _ => 0) (mAtL P_X10_isClosed) (some .boolean) Q 108 [some (.ref 53), some (.int (nI q)), some (.int (nI b)), l3, l4, l5] [] s1 := by
        intro w o1 s1 l3 l4 l5 hs he hf1 hO1
        refine w_blk 1 (pc' := 111) (ls' := [some (.ref 53), some (.int (nI q)), some (.int ((nI b) + 1)), l3, l4, l5]) (sk' := []) (st' := s1) (fun _ h => h) ?_
        rw [show ((nI b) + 1) = nI (b + 1) from nI_add b 1]
        refine w_blk 1 (pc' := 30) (ls' := [some (.ref 53), some (.int (nI q)), some (.int (nI (b + 1))), l3, l4, l5]) (sk' := []) (st' := s1) (fun _ h => h) ?_
        exact ih (b + 1) o1 s1 l3 l4 l5 (by omega) hf1 hO1 (fun k hk => Nat.le_trans (hs.2.2.1 k hk) (ho k hk)) ((step_cnd hs (he.imp_right (fun hh k hk hw => if h0 : o1 k = 0 then h0 else absurd ⟨by omega, hw.1, hw.2⟩ (hh k hk)))).symm.trans hc)
      have within : ∀ (N w : Nat) (o1 : Nat → Nat) (s1 : mSt) (l5 : Option Value), w ≤ N → stepR T U a q b o o1 w → Fr [82] st s1 → (∀ k, k < a → s1.1 82 k = nI (o1 k)) → mW (mMC mT (d + 1)) (0, fun _ => 0) (mAtL P_X10_isClosed) (some .boolean) Q 46 [some (.ref 53), some (.int (nI q)), some (.int (nI b)), some (.int (nI w)), some (.int (eO (nhO T U o1 b a))), l5] [] s1 := by
        intro N
        induction N with
        | zero =>
          intro w o1 s1 l5 hw hs hf1 hO1
          obtain rfl : w = 0 := by omega
          refine w_blk 1 (pc' := 47) (ls' := [some (.ref 53), some (.int (nI q)), some (.int (nI b)), some (.int (nI 0)), some (.int (eO (nhO T U o1 b a))), l5]) (sk' := [.int (nI 0)]) (st' := s1) (fun _ h => h) ?_
          refine w_if_le rfl (fun _ => ?_) (fun hno => absurd (by decide) hno)
          exact out 0 o1 s1 _ _ _ hs (Or.inl rfl) hf1 hO1
        | succ N ihN =>
          intro w o1 s1 l5 hw hs hf1 hO1
          have hwq := hs.1
          have hP1 := hPf s1 hf1
          have ho1 : ∀ k, k < a → o1 k ≤ 99 := fun k hk => Nat.le_trans (hs.2.2.1 k hk) (ho k hk)
          refine w_blk 1 (pc' := 47) (ls' := [some (.ref 53), some (.int (nI q)), some (.int (nI b)), some (.int (nI w)), some (.int (eO (nhO T U o1 b a))), l5]) (sk' := [.int (nI w)]) (st' := s1) (fun _ h => h) ?_
          refine w_if_le rfl (fun h1 => ?_) (fun h1 => ?_)
          · replace h1 : w ≤ 0 := (nI_leI (a := w) (b := 0) (by omega) (by omega)).mp h1
            exact out w o1 s1 _ _ _ hs (Or.inl (by omega)) hf1 hO1
          · replace h1 : ¬ (w ≤ 0) := fun hh => h1 ((nI_leI (a := w) (b := 0) (by omega) (by omega)).mpr hh)
            have hsp := nhO_spec (T := T) (U := U) (o := o1) (b := b) a
            rcases e : nhO T U o1 b a with _ | f
            · show mW (mMC mT (d + 1)) (0, fun _ => 0) (mAtL P_X10_isClosed) (some .boolean) Q 50 [some (.ref 53), some (.int (nI q)), some (.int (nI b)), some (.int (nI w)), some (.int (-9)), l5] [] s1
              refine w_blk 2 (pc' := 54) (ls' := [some (.ref 53), some (.int (nI q)), some (.int (nI b)), some (.int (nI w)), some (.int (-9)), l5]) (sk' := [.int (-9), .int (-9)]) (st' := s1) (fun _ h => h) ?_
              refine w_cmp_eq rfl (fun _ => ?_) (fun hno => absurd rfl hno)
              exact out w o1 s1 _ _ _ hs (Or.inr (hsp.1 e)) hf1 hO1
            · obtain ⟨hfa, hav, hmin⟩ := hsp.2 f e
              have hHf := hH.2 f hfa
              have hof := ho1 f hfa
              have hpos : 0 < o1 f := hav.1
              have hmore := step_more hs hfa hav hmin
              show mW (mMC mT (d + 1)) (0, fun _ => 0) (mAtL P_X10_isClosed) (some .boolean) Q 50 [some (.ref 53), some (.int (nI q)), some (.int (nI b)), some (.int (nI w)), some (.int (nI f)), l5] [] s1
              refine w_blk 2 (pc' := 54) (ls' := [some (.ref 53), some (.int (nI q)), some (.int (nI b)), some (.int (nI w)), some (.int (nI f)), l5]) (sk' := [.int (-9), .int (nI f)]) (st' := s1) (fun _ h => h) ?_
              refine w_cmp_eq rfl (fun hno => absurd hno (fun hh => absurd (congrArg Int32.toInt hh) (by rw [nI_toInt (by omega), show (-9 : Int32).toInt = -9 from rfl]; omega))) (fun _ => ?_)
              refine w_blk 3 (pc' := 63) (ls' := [some (.ref 53), some (.int (nI q)), some (.int (nI b)), some (.int (nI w)), some (.int (nI f)), l5]) (sk' := [.int (nI f), .ref 82]) (st' := s1) (fun _ h => h) ?_
              refine w_iald rfl rfl (vp_in_nI (n := f) (N := 8) (by omega) (by decide)) ?_
              rw [nI_clamp (show f < 2 ^ 31 by omega)]
              rw [hO1 f (by omega)]
              refine w_blk 1 (pc' := 65) (ls' := [some (.ref 53), some (.int (nI q)), some (.int (nI b)), some (.int (nI w)), some (.int (nI f)), l5]) (sk' := [.int (nI w), .int (nI (o1 f))]) (st' := s1) (fun _ h => h) ?_
              refine w_cmp_ge rfl (fun h1 => ?_) (fun h1 => ?_)
              · replace h1 : w ≤ o1 f := (nI_leI (a := w) (b := (o1 f)) (by omega) (by omega)).mp h1
                refine w_blk 2 (pc' := 81) (ls' := [some (.ref 53), some (.int (nI q)), some (.int (nI b)), some (.int (nI w)), some (.int (nI f)), some (.int (nI w))]) (sk' := []) (st' := s1) (fun _ h => h) ?_
                have hv : w = min (o1 f) w := by omega
                refine w_blk 4 (pc' := 88) (ls' := [some (.ref 53), some (.int (nI q)), some (.int (nI b)), some (.int (nI w)), some (.int (nI f)), some (.int (nI w))]) (sk' := [.int (nI f), .ref 82, .int (nI f), .ref 82]) (st' := s1) (fun _ h => h) ?_
                refine w_iald rfl rfl (vp_in_nI (n := f) (N := 8) (by omega) (by decide)) ?_
                rw [nI_clamp (show f < 2 ^ 31 by omega)]
                rw [hO1 f (by omega)]
                refine w_blk 2 (pc' := 92) (ls' := [some (.ref 53), some (.int (nI q)), some (.int (nI b)), some (.int (nI w)), some (.int (nI f)), some (.int (nI w))]) (sk' := [.int ((nI (o1 f)) - (nI w)), .int (nI f), .ref 82]) (st' := s1) (fun _ h => h) ?_
                rw [show ((nI (o1 f)) - (nI w)) = nI ((o1 f) - w) from pk_sub (a := o1 f) (b := w) (by omega)]
                refine w_iast rfl rfl (vp_in_nI (n := f) (N := 8) (by omega) (by decide)) ?_
                rw [nI_clamp (show f < 2 ^ 31 by omega)]
                have hO_2 : ∀ k, k < a → (((mU s1.1 82 f (nI ((o1 f) - w))), s1.2)).1 82 k = nI (updN o1 f (o1 f - min (o1 f) w) k) := (fun k hk => if ek : k = f then (by rw [ek, updN_s]; exact (mU_at (f := s1.1) (p := 82) (k := f)).trans (congrArg nI (by omega))) else (by rw [updN_n ek]; exact (mU_row ek).trans (hO1 k hk)))
                have hF_3 : Fr [82] st ((mU s1.1 82 f (nI ((o1 f) - w))), s1.2) := (Fr.trans hf1 (Fr.mU (by decide)))
                generalize ((mU s1.1 82 f (nI ((o1 f) - w))), s1.2) = s1 at hO_2 hF_3 ⊢
                refine w_blk 3 (pc' := 97) (ls' := [some (.ref 53), some (.int (nI q)), some (.int (nI b)), some (.int (nI w)), some (.int (nI f)), some (.int (nI w))]) (sk' := [.int ((nI w) - (nI w))]) (st' := s1) (fun _ h => h) ?_
                rw [show ((nI w) - (nI w)) = nI (w - w) from pk_sub (a := w) (b := w) (by omega)]
                refine w_blk 1 (pc' := 98) (ls' := [some (.ref 53), some (.int (nI q)), some (.int (nI b)), some (.int (nI (w - w))), some (.int (nI f)), some (.int (nI w))]) (sk' := []) (st' := s1) (fun _ h => h) ?_
                have hP2 := hPf s1 hF_3
                have ho2 : ∀ k, k < a → updN o1 f (o1 f - min (o1 f) w) k ≤ 99 := fun k hk => Nat.le_trans (hmore.2.2.1 k hk) (ho k hk)
                refine w_blk 2 (pc' := 100) (ls' := [some (.ref 53), some (.int (nI q)), some (.int (nI b)), some (.int (nI (w - w))), some (.int (nI f)), some (.int (nI w))]) (sk' := [.int (nI b), .ref 53]) (st' := s1) (fun _ h => h) ?_
                refine w_callV (As := [.ref 53, .int (nI b)]) (rest := []) rfl rfl rfl (Nat.le_of_ble_eq_true rfl) (Nat.le_of_ble_eq_true rfl) (by first | exact Or.inl ⟨rfl, rfl⟩ | exact Or.inr ⟨rfl, rfl⟩) (m_nextHole (d + 0) a T C U (updN o1 f (o1 f - min (o1 f) w)) b s1 hP2 hH hO_2 ho2 (by omega)) ?_
                refine w_blk 2 (pc' := 46) (ls' := [some (.ref 53), some (.int (nI q)), some (.int (nI b)), some (.int (nI (w - w))), some (.int (eO (nhO T U (updN o1 f (o1 f - min (o1 f) w)) b a))), some (.int (nI w))]) (sk' := []) (st' := s1) (fun _ h => h) ?_
                exact (by have hh := ihN (w - min (o1 f) w) _ s1 (some (.int (nI w))) (by omega) hmore hF_3 hO_2; rw [show w - min (o1 f) w = w - w by omega] at hh; exact hh)
              · replace h1 : ¬ (w ≤ o1 f) := fun hh => h1 ((nI_leI (a := w) (b := (o1 f)) (by omega) (by omega)).mpr hh)
                refine w_blk 3 (pc' := 74) (ls' := [some (.ref 53), some (.int (nI q)), some (.int (nI b)), some (.int (nI w)), some (.int (nI f)), l5]) (sk' := [.int (nI f), .ref 82]) (st' := s1) (fun _ h => h) ?_
                refine w_iald rfl rfl (vp_in_nI (n := f) (N := 8) (by omega) (by decide)) ?_
                rw [nI_clamp (show f < 2 ^ 31 by omega)]
                rw [hO1 f (by omega)]
                refine w_blk 2 (pc' := 81) (ls' := [some (.ref 53), some (.int (nI q)), some (.int (nI b)), some (.int (nI w)), some (.int (nI f)), some (.int (nI (o1 f)))]) (sk' := []) (st' := s1) (fun _ h => h) ?_
                have hv : o1 f = min (o1 f) w := by omega
                refine w_blk 4 (pc' := 88) (ls' := [some (.ref 53), some (.int (nI q)), some (.int (nI b)), some (.int (nI w)), some (.int (nI f)), some (.int (nI (o1 f)))]) (sk' := [.int (nI f), .ref 82, .int (nI f), .ref 82]) (st' := s1) (fun _ h => h) ?_
                refine w_iald rfl rfl (vp_in_nI (n := f) (N := 8) (by omega) (by decide)) ?_
                rw [nI_clamp (show f < 2 ^ 31 by omega)]
                rw [hO1 f (by omega)]
                refine w_blk 2 (pc' := 92) (ls' := [some (.ref 53), some (.int (nI q)), some (.int (nI b)), some (.int (nI w)), some (.int (nI f)), some (.int (nI (o1 f)))]) (sk' := [.int ((nI (o1 f)) - (nI (o1 f))), .int (nI f), .ref 82]) (st' := s1) (fun _ h => h) ?_
                rw [show ((nI (o1 f)) - (nI (o1 f))) = nI ((o1 f) - (o1 f)) from pk_sub (a := o1 f) (b := o1 f) (by omega)]
                refine w_iast rfl rfl (vp_in_nI (n := f) (N := 8) (by omega) (by decide)) ?_
                rw [nI_clamp (show f < 2 ^ 31 by omega)]
                have hO_5 : ∀ k, k < a → (((mU s1.1 82 f (nI ((o1 f) - (o1 f)))), s1.2)).1 82 k = nI (updN o1 f (o1 f - min (o1 f) w) k) := (fun k hk => if ek : k = f then (by rw [ek, updN_s]; exact (mU_at (f := s1.1) (p := 82) (k := f)).trans (congrArg nI (by omega))) else (by rw [updN_n ek]; exact (mU_row ek).trans (hO1 k hk)))
                have hF_6 : Fr [82] st ((mU s1.1 82 f (nI ((o1 f) - (o1 f)))), s1.2) := (Fr.trans hf1 (Fr.mU (by decide)))
                generalize ((mU s1.1 82 f (nI ((o1 f) - (o1 f)))), s1.2) = s4 at hO_5 hF_6 ⊢
                refine w_blk 3 (pc' := 97) (ls' := [some (.ref 53), some (.int (nI q)), some (.int (nI b)), some (.int (nI w)), some (.int (nI f)), some (.int (nI (o1 f)))]) (sk' := [.int ((nI w) - (nI (o1 f)))]) (st' := s4) (fun _ h => h) ?_
                rw [show ((nI w) - (nI (o1 f))) = nI (w - (o1 f)) from pk_sub (a := w) (b := o1 f) (by omega)]
                refine w_blk 1 (pc' := 98) (ls' := [some (.ref 53), some (.int (nI q)), some (.int (nI b)), some (.int (nI (w - (o1 f)))), some (.int (nI f)), some (.int (nI (o1 f)))]) (sk' := []) (st' := s4) (fun _ h => h) ?_
                have hP2 := hPf s4 hF_6
                have ho2 : ∀ k, k < a → updN o1 f (o1 f - min (o1 f) w) k ≤ 99 := fun k hk => Nat.le_trans (hmore.2.2.1 k hk) (ho k hk)
                refine w_blk 2 (pc' := 100) (ls' := [some (.ref 53), some (.int (nI q)), some (.int (nI b)), some (.int (nI (w - (o1 f)))), some (.int (nI f)), some (.int (nI (o1 f)))]) (sk' := [.int (nI b), .ref 53]) (st' := s4) (fun _ h => h) ?_
                refine w_callV (As := [.ref 53, .int (nI b)]) (rest := []) rfl rfl rfl (Nat.le_of_ble_eq_true rfl) (Nat.le_of_ble_eq_true rfl) (by first | exact Or.inl ⟨rfl, rfl⟩ | exact Or.inr ⟨rfl, rfl⟩) (m_nextHole (d + 0) a T C U (updN o1 f (o1 f - min (o1 f) w)) b s4 hP2 hH hO_5 ho2 (by omega)) ?_
                refine w_blk 2 (pc' := 46) (ls' := [some (.ref 53), some (.int (nI q)), some (.int (nI b)), some (.int (nI (w - (o1 f)))), some (.int (eO (nhO T U (updN o1 f (o1 f - min (o1 f) w)) b a))), some (.int (nI (o1 f)))]) (sk' := []) (st' := s4) (fun _ h => h) ?_
                exact (by have hh := ihN (w - min (o1 f) w) _ s4 (some (.int (nI (o1 f)))) (by omega) hmore hF_6 hO_5; rw [show w - min (o1 f) w = w - (o1 f) by omega] at hh; exact hh)
      refine w_blk 2 (pc' := 34) (ls' := [some (.ref 53), some (.int (nI q)), some (.int (nI b)), l3, l4, l5]) (sk' := [.int 200, .int (nI b)]) (st' := s0) (fun _ h => h) ?_
      refine w_cmp_ge rfl (fun hno => absurd hno (nI_ge (a := b) (b := 200) (by omega) (by omega))) (fun _ => ?_)
      refine w_blk 4 (pc' := 41) (ls' := [some (.ref 53), some (.int (nI q)), some (.int (nI b)), some (.int (nI q)), l4, l5]) (sk' := [.int (nI b), .ref 53]) (st' := s0) (fun _ h => h) ?_
      refine w_callV (As := [.ref 53, .int (nI b)]) (rest := []) rfl rfl rfl (Nat.le_of_ble_eq_true rfl) (Nat.le_of_ble_eq_true rfl) (by first | exact Or.inl ⟨rfl, rfl⟩ | exact Or.inr ⟨rfl, rfl⟩) (m_nextHole (d + 0) a T C U o b s0 hP0 hH hO ho (by omega)) ?_
      refine w_blk 1 (pc' := 46) (ls' := [some (.ref 53), some (.int (nI q)), some (.int (nI b)), some (.int (nI q)), some (.int (eO (nhO T U o b a))), l5]) (sk' := []) (st' := s0) (fun _ h => h) ?_
      exact within q q o s0 l5 (Nat.le_refl _) ⟨Nat.le_refl _, by omega, fun _ _ => Nat.le_refl _, fun _ _ _ => rfl, fun k hk hlt => absurd hlt (Nat.lt_irrefl _)⟩ hf hO
  refine w_blk 2 (pc' := 2) (ls' := [some (.ref 53), some (.int (nI q)), some (.int 0), none, none, none]) (sk' := []) (st' := st) (fun _ h => h) ?_
  suffices key : ∀ (m k : Nat) (s0 : mSt), k + m = a → Fr [82] st s0 → (∀ j, j < k → s0.1 82 j = nI (C j)) → mW (mMC mT (d + 1)) (0, fun _ => 0) (mAtL P_X10_isClosed) (some .boolean) Q 2 [some (.ref 53), some (.int (nI q)), some (.int (nI k)), none, none, none] [] s0 from key a 0 st (by omega) Fr.rf (fun j hj => absurd hj (by omega))
  intro m
  induction m with
  | zero =>
    intro k s0 hk hf hz
    obtain rfl : a = k := by omega
    have hP0 := hPf s0 hf
    refine w_blk 3 (pc' := 7) (ls' := [some (.ref 53), some (.int (nI q)), some (.int (nI a)), none, none, none]) (sk' := [.int (s0.1 53 33), .int (nI a)]) (st' := s0) (fun _ h => h) ?_
    rw [hP0.1]
    refine w_cmp_ge rfl (fun _ => ?_) (fun hno => absurd (Int32.le_refl _) hno)
    refine w_blk 2 (pc' := 30) (ls' := [some (.ref 53), some (.int (nI q)), some (.int 0), none, none, none]) (sk' := []) (st' := s0) (fun _ h => h) ?_
    exact beats 200 0 C s0 _ _ _ (by omega) hf hz (fun k hk => (hH.2 k hk).2.2.1) Iff.rfl
  | succ m ih =>
    intro k s0 hk hf hz
    have hk2 : k < a := by omega
    have hP0 := hPf s0 hf
    have hHk := hH.2 k hk2
    refine w_blk 3 (pc' := 7) (ls' := [some (.ref 53), some (.int (nI q)), some (.int (nI k)), none, none, none]) (sk' := [.int (s0.1 53 33), .int (nI k)]) (st' := s0) (fun _ h => h) ?_
    rw [hP0.1]
    refine w_cmp_ge rfl (fun hno => absurd hno (nI_ge hk2 (by omega))) (fun _ => ?_)
    refine w_blk 6 (pc' := 20) (ls' := [some (.ref 53), some (.int (nI q)), some (.int (nI k)), none, none, none]) (sk' := [.int (nI k), .ref 80, .int (nI k), .ref 82]) (st' := s0) (fun _ h => h) ?_
    refine w_iald rfl rfl (vp_in_nI (n := k) (N := 8) (by omega) (by decide)) ?_
    rw [nI_clamp (show k < 2 ^ 31 by omega)]
    rw [(hP0.2 k (by omega)).2.1]
    refine w_iast rfl rfl (vp_in_nI (n := k) (N := 8) (by omega) (by decide)) ?_
    rw [nI_clamp (show k < 2 ^ 31 by omega)]
    refine w_blk 1 (pc' := 25) (ls' := [some (.ref 53), some (.int (nI q)), some (.int ((nI k) + 1)), none, none, none]) (sk' := []) (st' := ((mU s0.1 82 k (nI (C k))), s0.2)) (fun _ h => h) ?_
    rw [show ((nI k) + 1) = nI (k + 1) from nI_add k 1]
    refine w_blk 1 (pc' := 2) (ls' := [some (.ref 53), some (.int (nI q)), some (.int (nI (k + 1))), none, none, none]) (sk' := []) (st' := ((mU s0.1 82 k (nI (C k))), s0.2)) (fun _ h => h) ?_
    exact ih (k + 1) ((mU s0.1 82 k (nI (C k))), s0.2) (by omega) (Fr.trans hf (Fr.mU (by decide))) (fun j hj => if ej : j = k then (by rw [ej]; exact mU_at (f := s0.1) (p := 82) (k := k)) else (mU_row ej).trans (hz j (by omega)))
set_option maxRecDepth 20000 in
/-- night -/
theorem m_night (d : Nat) (a : Nat) (T C U : Nat → Nat) (q : Int32) (st : mSt) (hP : MH st a T C U) (hH : HBd a T C U) : ∃ (s : mSt), mMC mT (d + 3) 178 [.ref 53, .int q] st (some (.int (sp_night a T C U q))) s ∧ Fr [82] st s := by
  suffices H : ∀ Q : Option Value → mSt → Prop, (∀ (s : mSt), Fr [82] st s → Q (some (.int (sp_night a T C U q))) s) → mW (mMC mT (d + 2)) (0, fun _ => 0) (mAtL P_X10_night) (some .int) Q 0 [some (.ref 53), some (.int q)] [] st by
    obtain ⟨_, _, ⟨s, rfl, rfl, hp⟩, hw⟩ := mW_ex (H (fun vv tt => ∃ (s : mSt),  vv = some (.int (sp_night a T C U q)) ∧ s = tt ∧ Fr [82] st s) (fun s hp => ⟨s, rfl, rfl, hp⟩))
    exact ⟨s, mI_X10_night (d := d + 2) (Nat.le_of_ble_eq_true rfl) hw, hp⟩
  intro Q hq
  refine w_blk 3 (pc' := 4) (ls' := [some (.ref 53), some (.int q)]) (sk' := [.int 99, .int 1, .int q]) (st' := st) (fun _ h => h) ?_
  refine w_callS (As := [.int q, .int 1, .int 99]) (rest := []) rfl rfl rfl (Nat.le_of_ble_eq_true rfl) (Nat.le_of_ble_eq_true rfl) (m_in (d + 1) q 1 99 st) ?_
  refine w_if_eq rfl (fun h1 => ?_) (fun h1 => ?_)
  · replace h1 := pI_eq0.mp h1
    refine w_blk 1 (pc' := 27) (ls' := [some (.ref 53), some (.int q)]) (sk' := [.int (-1)]) (st' := st) (fun _ h => h) ?_
    exact w_iret rfl rfl rfl (by have hh := hq st Fr.rf; rw [show sp_night a T C U q = -1 from if_neg h1] at hh; exact hh)
  · replace h1 := pI_ne.mp h1
    have hok : 1 ≤ q ∧ q ≤ 99 := h1
    obtain ⟨k, hk1, hk2, rfl⟩ := nI_within (a := 1) (b := 99) h1 (by decide) (by decide)
    rw [show sp_night a T C U (nI k) = pI (lci T C U a a ≤ k) from (if_pos hok).trans (by rw [nI_clamp (show k < 2 ^ 31 by omega)])] at hq
    refine w_blk 2 (pc' := 12) (ls' := [some (.ref 53), some (.int (nI k))]) (sk' := [.int (nI k), .ref 53]) (st' := st) (fun _ h => h) ?_
    obtain ⟨s1, hc_2, hf_3⟩ := m_isClosed (d + 0) a T C U k st hP hH (by omega) (by omega)
    refine w_callV (As := [.ref 53, .int (nI k)]) (rest := []) rfl rfl rfl (Nat.le_of_ble_eq_true rfl) (Nat.le_of_ble_eq_true rfl) (by first | exact Or.inl ⟨rfl, rfl⟩ | exact Or.inr ⟨rfl, rfl⟩) hc_2 ?_
    refine w_if_eq rfl (fun h2 => ?_) (fun h2 => ?_)
    · replace h2 := pI_eq0.mp h2
      refine w_blk 2 (pc' := 27) (ls' := [some (.ref 53), some (.int (nI k))]) (sk' := [.int 0]) (st' := s1) (fun _ h => h) ?_
      rw [pI_f h2] at hq
      exact w_iret rfl rfl rfl (hq _ hf_3)
    · replace h2 := pI_ne.mp h2
      refine w_blk 2 (pc' := 27) (ls' := [some (.ref 53), some (.int (nI k))]) (sk' := [.int 1]) (st' := s1) (fun _ h => h) ?_
      rw [pI_t h2] at hq
      exact w_iret rfl rfl rfl (hq _ hf_3)
set_option maxRecDepth 20000 in
/-- least -/
theorem m_least (d : Nat) (a : Nat) (T C U : Nat → Nat) (st : mSt) (hP : MH st a T C U) (hH : HBd a T C U) : ∃ (s : mSt), mMC mT (d + 3) 179 [.ref 53] st (some (.int (sp_least a T C U))) s ∧ Fr [82] st s := by
  suffices H : ∀ Q : Option Value → mSt → Prop, (∀ (s : mSt), Fr [82] st s → Q (some (.int (sp_least a T C U))) s) → mW (mMC mT (d + 2)) (0, fun _ => 0) (mAtL P_X10_least) (some .int) Q 0 [some (.ref 53), none] [] st by
    obtain ⟨_, _, ⟨s, rfl, rfl, hp⟩, hw⟩ := mW_ex (H (fun vv tt => ∃ (s : mSt),  vv = some (.int (sp_least a T C U)) ∧ s = tt ∧ Fr [82] st s) (fun s hp => ⟨s, rfl, rfl, hp⟩))
    exact ⟨s, mI_X10_least (d := d + 2) (Nat.le_of_ble_eq_true rfl) hw, hp⟩
  intro Q hq
  have hPf : ∀ s0, Fr [82] st s0 → MH s0 a T C U := fun s0 hf => MH_fr hf (by decide) (by rw [hf.1 53 (by decide)]) hP
  have hl1 := lci_1 (T := T) (C := C) (U := U) (a := a) a
  refine w_blk 2 (pc' := 2) (ls' := [some (.ref 53), some (.int 1)]) (sk' := []) (st' := st) (fun _ h => h) ?_
  suffices key : ∀ (m q : Nat) (s0 : mSt), q + m = 100 → 1 ≤ q → Fr [82] st s0 → q ≤ lci T C U a a → mW (mMC mT (d + 2)) (0, fun _ => 0) (mAtL P_X10_least) (some .int) Q 2 [some (.ref 53), some (.int (nI q))] [] s0 from key 99 1 st (by omega) (by omega) Fr.rf hl1
  intro m
  induction m with
  | zero =>
    intro q s0 hqm hq1 hf hz
    obtain rfl : q = 100 := by omega
    refine w_blk 2 (pc' := 5) (ls' := [some (.ref 53), some (.int (nI 100))]) (sk' := [.int 99, .int (nI 100)]) (st' := s0) (fun _ h => h) ?_
    refine w_cmp_gt rfl (fun _ => ?_) (fun hno => absurd (by decide) hno)
    refine w_blk 1 (pc' := 26) (ls' := [some (.ref 53), some (.int (nI 100))]) (sk' := [.int (-9)]) (st' := s0) (fun _ h => h) ?_
    exact w_iret rfl rfl rfl (by have hh := hq s0 hf; rw [show sp_least a T C U = -9 from if_neg (by omega)] at hh; exact hh)
  | succ m ih =>
    intro q s0 hqm hq1 hf hz
    have hP0 := hPf s0 hf
    refine w_blk 2 (pc' := 5) (ls' := [some (.ref 53), some (.int (nI q))]) (sk' := [.int 99, .int (nI q)]) (st' := s0) (fun _ h => h) ?_
    refine w_cmp_gt rfl (fun h0 => ?_) (fun h0 => ?_)
    · replace h0 : 99 < q := (nI_ltI (a := 99) (b := q) (by omega) (by omega)).mp h0
      exact absurd h0 (by omega)
    · replace h0 : ¬ (99 < q) := fun hh => h0 ((nI_ltI (a := 99) (b := q) (by omega) (by omega)).mpr hh)
      refine w_blk 2 (pc' := 10) (ls' := [some (.ref 53), some (.int (nI q))]) (sk' := [.int (nI q), .ref 53]) (st' := s0) (fun _ h => h) ?_
      obtain ⟨s1, hc_2, hf_3⟩ := m_isClosed (d + 0) a T C U q s0 hP0 hH (by omega) (by omega)
      refine w_callV (As := [.ref 53, .int (nI q)]) (rest := []) rfl rfl rfl (Nat.le_of_ble_eq_true rfl) (Nat.le_of_ble_eq_true rfl) (by first | exact Or.inl ⟨rfl, rfl⟩ | exact Or.inr ⟨rfl, rfl⟩) hc_2 ?_
      refine w_if_eq rfl (fun h2 => ?_) (fun h2 => ?_)
      · replace h2 := pI_eq0.mp h2
        refine w_blk 1 (pc' := 21) (ls' := [some (.ref 53), some (.int ((nI q) + 1))]) (sk' := []) (st' := s1) (fun _ h => h) ?_
        rw [show ((nI q) + 1) = nI (q + 1) from nI_add q 1]
        refine w_blk 1 (pc' := 2) (ls' := [some (.ref 53), some (.int (nI (q + 1)))]) (sk' := []) (st' := s1) (fun _ h => h) ?_
        exact ih (q + 1) s1 (by omega) (by omega) (Fr.trans hf hf_3) (by omega)
      · replace h2 := pI_ne.mp h2
        refine w_blk 1 (pc' := 17) (ls' := [some (.ref 53), some (.int (nI q))]) (sk' := [.int (nI q)]) (st' := s1) (fun _ h => h) ?_
        exact w_iret rfl rfl rfl (by have hh := hq _ (Fr.trans hf hf_3); rw [show sp_least a T C U = nI q from (if_pos (by omega)).trans (congrArg nI (by omega))] at hh; exact hh)
