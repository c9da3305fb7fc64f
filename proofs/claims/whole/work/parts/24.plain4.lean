/-! IMAGES, MARKS, HOLES, TOLD ONES: the class SpadeRings -/
def Fk (p : Nat) (K : List Nat) (st st1 : mSt) : Prop := ∀ j, j ∉ K → st1.1 p j = st.1 p j
theorem Fk.rf {p : Nat} {K : List Nat} {st : mSt} : Fk p K st st := fun _ _ => rfl
theorem Fk.trans {p : Nat} {K : List Nat} {a b c : mSt} (h1 : Fk p K a b) (h2 : Fk p K b c) : Fk p K a c := fun j hj => (h2 j hj).trans (h1 j hj)
theorem Fk.fr {p : Nat} {K S : List Nat} {a b : mSt} (h : Fr S a b) (hp : p ∉ S) : Fk p K a b := fun j _ => by rw [h.1 p hp]
theorem Fk.wr {p k : Nat} {K : List Nat} {x : Int32} {st : mSt} (h : k ∈ K) : Fk p K st (mU st.1 p k x, st.2) := fun j hj => mU_row (fun e => hj (e ▸ h))
theorem Fk.wn {p q k : Nat} {K : List Nat} {x : Int32} {st : mSt} (h : q ≠ p) : Fk p K st (mU st.1 q k x, st.2) := fun j _ => by
  show mU st.1 q k x p j = _
  rw [mU_ne (fun e => h e.symm)]
theorem nI_within {x : Int32} {a b : Nat} (h : nI a ≤ x ∧ x ≤ nI b) (ha : a < 2 ^ 31) (hb : b < 2 ^ 31) : ∃ k : Nat, a ≤ k ∧ k ≤ b ∧ x = nI k := by
  obtain ⟨h1, h2⟩ := h
  have h0 : ¬ x < 0 := by
    have := nI_pos' ha
    simp only [Int32.le_iff_toInt_le, Int32.lt_iff_toInt_lt] at *
    omega
  obtain ⟨j, hj, rfl⟩ := nI_of h0
  exact ⟨j, (nI_leI ha hj).mp h1, (nI_leI hj hb).mp h2, rfl⟩
theorem nI_withinI {k a b : Nat} (ha : a ≤ k) (hb : k ≤ b) (h : b < 2 ^ 31) : nI a ≤ nI k ∧ nI k ≤ nI b := ⟨nI_le ha (by omega), nI_le hb h⟩
def XH (st : mSt) (a : Nat) (T C U : Nat → Nat) : Prop := st.1 45 0 = nI a ∧ ∀ k, k < a → st.1 46 k = nI (T k) ∧ st.1 47 k = nI (C k) ∧ st.1 48 k = nI (U k)
theorem XH_add {st : mSt} {a : Nat} {T C U : Nat → Nat} (h : XH st a T C U) (t c u : Nat) : XH (mU (mU (mU (mU st.1 46 a (nI t)) 47 a (nI c)) 48 a (nI u)) 45 0 (nI (a + 1)), st.2) (a + 1) (updN T a t) (updN C a c) (updN U a u) := by
  refine ⟨rfl, fun k hk => ?_⟩
  show mU st.1 46 a (nI t) 46 k = _ ∧ mU st.1 47 a (nI c) 47 k = _ ∧ mU st.1 48 a (nI u) 48 k = _
  by_cases e : k = a
  · subst e
    rw [updN_s, updN_s, updN_s]
    exact ⟨mU_at, mU_at, mU_at⟩
  · rw [updN_n e, updN_n e, updN_n e, mU_row e, mU_row e, mU_row e]
    exact h.2 k (by omega)
theorem XH_no {st : mSt} {a : Nat} {T C U : Nat → Nat} (h : XH st a T C U) (t c u : Nat) : XH st a (updN T a t) (updN C a c) (updN U a u) := by
  refine ⟨h.1, fun k hk => ?_⟩
  rw [updN_n (by omega), updN_n (by omega), updN_n (by omega)]
  exact h.2 k hk
theorem XH_fr {S : List Nat} {st st1 : mSt} {a : Nat} {T C U : Nat → Nat} (hf : Fr S st st1) (hS : ∀ p, p ∈ [46, 47, 48] → p ∉ S) (h0 : st1.1 45 0 = st.1 45 0) (h : XH st a T C U) : XH st1 a T C U := by
  unfold XH at h ⊢
  rw [h0, hf.1 46 (hS 46 (by decide)), hf.1 47 (hS 47 (by decide)), hf.1 48 (hS 48 (by decide))]
  exact h
def XT (st : mSt) (a : Nat) (T C U : Nat → Nat) : Prop := st.1 49 0 = nI a ∧ ∀ k, k < a → st.1 50 k = nI (T k) ∧ st.1 51 k = nI (C k) ∧ st.1 52 k = nI (U k)
theorem XT_add {st : mSt} {a : Nat} {T C U : Nat → Nat} (h : XT st a T C U) (t c u : Nat) : XT (mU (mU (mU (mU st.1 50 a (nI t)) 51 a (nI c)) 52 a (nI u)) 49 0 (nI (a + 1)), st.2) (a + 1) (updN T a t) (updN C a c) (updN U a u) := by
  refine ⟨rfl, fun k hk => ?_⟩
  show mU st.1 50 a (nI t) 50 k = _ ∧ mU st.1 51 a (nI c) 51 k = _ ∧ mU st.1 52 a (nI u) 52 k = _
  by_cases e : k = a
  · subst e
    rw [updN_s, updN_s, updN_s]
    exact ⟨mU_at, mU_at, mU_at⟩
  · rw [updN_n e, updN_n e, updN_n e, mU_row e, mU_row e, mU_row e]
    exact h.2 k (by omega)
theorem XT_no {st : mSt} {a : Nat} {T C U : Nat → Nat} (h : XT st a T C U) (t c u : Nat) : XT st a (updN T a t) (updN C a c) (updN U a u) := by
  refine ⟨h.1, fun k hk => ?_⟩
  rw [updN_n (by omega), updN_n (by omega), updN_n (by omega)]
  exact h.2 k hk
theorem XT_fr {S : List Nat} {st st1 : mSt} {a : Nat} {T C U : Nat → Nat} (hf : Fr S st st1) (hS : ∀ p, p ∈ [50, 51, 52] → p ∉ S) (h0 : st1.1 49 0 = st.1 49 0) (h : XT st a T C U) : XT st1 a T C U := by
  unfold XT at h ⊢
  rw [h0, hf.1 50 (hS 50 (by decide)), hf.1 51 (hS 51 (by decide)), hf.1 52 (hS 52 (by decide))]
  exact h
def MH (st : mSt) (a : Nat) (T C U : Nat → Nat) : Prop := st.1 53 33 = nI a ∧ ∀ k, k < a → st.1 79 k = nI (T k) ∧ st.1 80 k = nI (C k) ∧ st.1 81 k = nI (U k)
theorem MH_add {st : mSt} {a : Nat} {T C U : Nat → Nat} (h : MH st a T C U) (t c u : Nat) : MH (mU (mU (mU (mU st.1 79 a (nI t)) 80 a (nI c)) 81 a (nI u)) 53 33 (nI (a + 1)), st.2) (a + 1) (updN T a t) (updN C a c) (updN U a u) := by
  refine ⟨rfl, fun k hk => ?_⟩
  show mU st.1 79 a (nI t) 79 k = _ ∧ mU st.1 80 a (nI c) 80 k = _ ∧ mU st.1 81 a (nI u) 81 k = _
  by_cases e : k = a
  · subst e
    rw [updN_s, updN_s, updN_s]
    exact ⟨mU_at, mU_at, mU_at⟩
  · rw [updN_n e, updN_n e, updN_n e, mU_row e, mU_row e, mU_row e]
    exact h.2 k (by omega)
theorem MH_no {st : mSt} {a : Nat} {T C U : Nat → Nat} (h : MH st a T C U) (t c u : Nat) : MH st a (updN T a t) (updN C a c) (updN U a u) := by
  refine ⟨h.1, fun k hk => ?_⟩
  rw [updN_n (by omega), updN_n (by omega), updN_n (by omega)]
  exact h.2 k hk
theorem MH_fr {S : List Nat} {st st1 : mSt} {a : Nat} {T C U : Nat → Nat} (hf : Fr S st st1) (hS : ∀ p, p ∈ [79, 80, 81] → p ∉ S) (h0 : st1.1 53 33 = st.1 53 33) (h : MH st a T C U) : MH st1 a T C U := by
  unfold MH at h ⊢
  rw [h0, hf.1 79 (hS 79 (by decide)), hf.1 80 (hS 80 (by decide)), hf.1 81 (hS 81 (by decide))]
  exact h
def MT (st : mSt) (a : Nat) (T C U : Nat → Nat) : Prop := st.1 53 38 = nI a ∧ ∀ k, k < a → st.1 83 k = nI (T k) ∧ st.1 84 k = nI (C k) ∧ st.1 85 k = nI (U k)
theorem MT_add {st : mSt} {a : Nat} {T C U : Nat → Nat} (h : MT st a T C U) (t c u : Nat) : MT (mU (mU (mU (mU st.1 83 a (nI t)) 84 a (nI c)) 85 a (nI u)) 53 38 (nI (a + 1)), st.2) (a + 1) (updN T a t) (updN C a c) (updN U a u) := by
  refine ⟨rfl, fun k hk => ?_⟩
  show mU st.1 83 a (nI t) 83 k = _ ∧ mU st.1 84 a (nI c) 84 k = _ ∧ mU st.1 85 a (nI u) 85 k = _
  by_cases e : k = a
  · subst e
    rw [updN_s, updN_s, updN_s]
    exact ⟨mU_at, mU_at, mU_at⟩
  · rw [updN_n e, updN_n e, updN_n e, mU_row e, mU_row e, mU_row e]
    exact h.2 k (by omega)
theorem MT_no {st : mSt} {a : Nat} {T C U : Nat → Nat} (h : MT st a T C U) (t c u : Nat) : MT st a (updN T a t) (updN C a c) (updN U a u) := by
  refine ⟨h.1, fun k hk => ?_⟩
  rw [updN_n (by omega), updN_n (by omega), updN_n (by omega)]
  exact h.2 k hk
theorem MT_fr {S : List Nat} {st st1 : mSt} {a : Nat} {T C U : Nat → Nat} (hf : Fr S st st1) (hS : ∀ p, p ∈ [83, 84, 85] → p ∉ S) (h0 : st1.1 53 38 = st.1 53 38) (h : MT st a T C U) : MT st1 a T C U := by
  unfold MT at h ⊢
  rw [h0, hf.1 83 (hS 83 (by decide)), hf.1 84 (hS 84 (by decide)), hf.1 85 (hS 85 (by decide))]
  exact h
abbrev okH (t c u : Int32) : Prop := (0 ≤ t ∧ t ≤ 99) ∧ (1 ≤ c ∧ c ≤ 99) ∧ (t ≤ u ∧ u ≤ 200)
def sp_hole (a : Nat) (t c u : Int32) : Int32 := if okH t c u then (if a < 8 then nI (a + 1) else -3) else -1
def hl_a (a : Nat) (t c u : Int32) : Nat := if okH t c u ∧ a < 8 then a + 1 else a
abbrev okT (n : Nat → Nat) (r x y : Int32) : Prop := (0 ≤ r ∧ r ≤ 99) ∧ ok0 n x ∧ ok1 n y
def sp_tell (n : Nat → Nat) (a : Nat) (r x y : Int32) : Int32 := if okT n r x y then (if a < 30 then nI (a + 1) else -3) else -1
def tl_a (n : Nat → Nat) (a : Nat) (r x y : Int32) : Nat := if okT n r x y ∧ a < 30 then a + 1 else a
def ad_a (a N : Nat) : Nat := if a < N then a + 1 else a
set_option maxRecDepth 20000 in
/-- add -/
theorem c_holeAdd (d : Nat) (a : Nat) (T C U : Nat → Nat) (t c u : Nat) (st : mSt) (hP : XH st a T C U) (ha : a ≤ 8) : ∃ (s : mSt), mMC mT (d + 2) 39 [.ref 45, .int (nI t), .int (nI c), .int (nI u)] st (some (.int (pI (a < 8)))) s ∧ XH s (ad_a a 8) (updN T a t) (updN C a c) (updN U a u) ∧ Fr [45, 46, 47, 48] st s := by
  suffices H : ∀ Q : Option Value → mSt → Prop, (∀ (s : mSt), (XH s (ad_a a 8) (updN T a t) (updN C a c) (updN U a u) ∧ Fr [45, 46, 47, 48] st s) → Q (some (.int (pI (a < 8)))) s) → mW (mMC mT (d + 1)) (0, fun _ => 0) (mAtL P_X3_add) (some .boolean) Q 0 [some (.ref 45), some (.int (nI t)), some (.int (nI c)), some (.int (nI u))] [] st by
    obtain ⟨_, _, ⟨s, rfl, rfl, hp⟩, hw⟩ := mW_ex (H (fun vv tt => ∃ (s : mSt),  vv = some (.int (pI (a < 8))) ∧ s = tt ∧ XH s (ad_a a 8) (updN T a t) (updN C a c) (updN U a u) ∧ Fr [45, 46, 47, 48] st s) (fun s hp => ⟨s, rfl, rfl, hp⟩))
    exact ⟨s, mI_X3_add (d := d + 1) (Nat.le_of_ble_eq_true rfl) hw, hp⟩
  intro Q hq
  refine w_blk 2 (pc' := 4) (ls' := [some (.ref 45), some (.int (nI t)), some (.int (nI c)), some (.int (nI u))]) (sk' := [.int (st.1 45 0)]) (st' := st) (fun _ h => h) ?_
  rw [hP.1]
  refine w_blk 1 (pc' := 6) (ls' := [some (.ref 45), some (.int (nI t)), some (.int (nI c)), some (.int (nI u))]) (sk' := [.int 8, .int (nI a)]) (st' := st) (fun _ h => h) ?_
  refine w_cmp_lt rfl (fun h1 => ?_) (fun h1 => ?_)
  · replace h1 : a < 8 := (nI_ltI (a := a) (b := 8) (by omega) (by omega)).mp h1
    refine w_blk 4 (pc' := 19) (ls' := [some (.ref 45), some (.int (nI t)), some (.int (nI c)), some (.int (nI u))]) (sk' := [.int (st.1 45 0), .ref 46]) (st' := st) (fun _ h => h) ?_
    rw [hP.1]
    refine w_blk 1 (pc' := 20) (ls' := [some (.ref 45), some (.int (nI t)), some (.int (nI c)), some (.int (nI u))]) (sk' := [.int (nI t), .int (nI a), .ref 46]) (st' := st) (fun _ h => h) ?_
    refine w_callS (As := [.ref 46, .int (nI a), .int (nI t)]) (rest := []) rfl rfl rfl (Nat.le_of_ble_eq_true rfl) (Nat.le_of_ble_eq_true rfl) (c_putK (d + 0) 46 8 a (nI t) st (by omega) (by decide) rfl) ?_
    refine w_blk 4 (pc' := 31) (ls' := [some (.ref 45), some (.int (nI t)), some (.int (nI c)), some (.int (nI u))]) (sk' := [.int (st.1 45 0), .ref 47]) (st' := ((mU st.1 46 a (nI t)), st.2)) (fun _ h => h) ?_
    rw [hP.1]
    refine w_blk 1 (pc' := 32) (ls' := [some (.ref 45), some (.int (nI t)), some (.int (nI c)), some (.int (nI u))]) (sk' := [.int (nI c), .int (nI a), .ref 47]) (st' := ((mU st.1 46 a (nI t)), st.2)) (fun _ h => h) ?_
    refine w_callS (As := [.ref 47, .int (nI a), .int (nI c)]) (rest := []) rfl rfl rfl (Nat.le_of_ble_eq_true rfl) (Nat.le_of_ble_eq_true rfl) (c_putK (d + 0) 47 8 a (nI c) ((mU st.1 46 a (nI t)), st.2) (by omega) (by decide) rfl) ?_
    refine w_blk 4 (pc' := 43) (ls' := [some (.ref 45), some (.int (nI t)), some (.int (nI c)), some (.int (nI u))]) (sk' := [.int (st.1 45 0), .ref 48]) (st' := ((mU (mU st.1 46 a (nI t)) 47 a (nI c)), st.2)) (fun _ h => h) ?_
    rw [hP.1]
    refine w_blk 1 (pc' := 44) (ls' := [some (.ref 45), some (.int (nI t)), some (.int (nI c)), some (.int (nI u))]) (sk' := [.int (nI u), .int (nI a), .ref 48]) (st' := ((mU (mU st.1 46 a (nI t)) 47 a (nI c)), st.2)) (fun _ h => h) ?_
    refine w_callS (As := [.ref 48, .int (nI a), .int (nI u)]) (rest := []) rfl rfl rfl (Nat.le_of_ble_eq_true rfl) (Nat.le_of_ble_eq_true rfl) (c_putK (d + 0) 48 8 a (nI u) ((mU (mU st.1 46 a (nI t)) 47 a (nI c)), st.2) (by omega) (by decide) rfl) ?_
    refine w_blk 3 (pc' := 52) (ls' := [some (.ref 45), some (.int (nI t)), some (.int (nI c)), some (.int (nI u))]) (sk' := [.int (st.1 45 0), .ref 45]) (st' := ((mU (mU (mU st.1 46 a (nI t)) 47 a (nI c)) 48 a (nI u)), st.2)) (fun _ h => h) ?_
    rw [hP.1]
    refine w_blk 2 (pc' := 54) (ls' := [some (.ref 45), some (.int (nI t)), some (.int (nI c)), some (.int (nI u))]) (sk' := [.int ((nI a) + 1), .ref 45]) (st' := ((mU (mU (mU st.1 46 a (nI t)) 47 a (nI c)) 48 a (nI u)), st.2)) (fun _ h => h) ?_
    rw [show ((nI a) + 1) = nI (a + 1) from nI_add a 1]
    refine w_blk 2 (pc' := 58) (ls' := [some (.ref 45), some (.int (nI t)), some (.int (nI c)), some (.int (nI u))]) (sk' := [.int 1]) (st' := ((mU (mU (mU (mU st.1 46 a (nI t)) 47 a (nI c)) 48 a (nI u)) 45 0 (nI (a + 1))), st.2)) (fun _ h => h) ?_
    exact w_iret rfl rfl rfl (by have hh := hq ((mU (mU (mU (mU st.1 46 a (nI t)) 47 a (nI c)) 48 a (nI u)) 45 0 (nI (a + 1))), st.2); rw [pI_t (show a < 8 by omega), show ad_a a 8 = a + 1 from if_pos (show a < 8 by omega)] at hh; exact hh ⟨XH_add hP t c u, (Fr.trans (Fr.trans (Fr.trans (Fr.trans (Fr.rf : Fr [45, 46, 47, 48] st st) (Fr.mU (by decide))) (Fr.mU (by decide))) (Fr.mU (by decide))) (Fr.mU (by decide)))⟩)
  · replace h1 : ¬ (a < 8) := fun hh => h1 ((nI_ltI (a := a) (b := 8) (by omega) (by omega)).mpr hh)
    refine w_blk 1 (pc' := 10) (ls' := [some (.ref 45), some (.int (nI t)), some (.int (nI c)), some (.int (nI u))]) (sk' := [.int 0]) (st' := st) (fun _ h => h) ?_
    exact w_iret rfl rfl rfl (by have hh := hq st; rw [pI_f (show ¬ a < 8 by omega), show ad_a a 8 = a from if_neg (show ¬ a < 8 by omega)] at hh; exact hh ⟨XH_no hP t c u, Fr.rf⟩)
set_option maxRecDepth 20000 in
/-- add -/
theorem c_toldAdd (d : Nat) (a : Nat) (T C U : Nat → Nat) (t c u : Nat) (st : mSt) (hP : XT st a T C U) (ha : a ≤ 30) : ∃ (s : mSt), mMC mT (d + 2) 80 [.ref 49, .int (nI t), .int (nI c), .int (nI u)] st (some (.int (pI (a < 30)))) s ∧ XT s (ad_a a 30) (updN T a t) (updN C a c) (updN U a u) ∧ Fr [49, 50, 51, 52] st s := by
  suffices H : ∀ Q : Option Value → mSt → Prop, (∀ (s : mSt), (XT s (ad_a a 30) (updN T a t) (updN C a c) (updN U a u) ∧ Fr [49, 50, 51, 52] st s) → Q (some (.int (pI (a < 30)))) s) → mW (mMC mT (d + 1)) (0, fun _ => 0) (mAtL P_X8_add) (some .boolean) Q 0 [some (.ref 49), some (.int (nI t)), some (.int (nI c)), some (.int (nI u))] [] st by
    obtain ⟨_, _, ⟨s, rfl, rfl, hp⟩, hw⟩ := mW_ex (H (fun vv tt => ∃ (s : mSt),  vv = some (.int (pI (a < 30))) ∧ s = tt ∧ XT s (ad_a a 30) (updN T a t) (updN C a c) (updN U a u) ∧ Fr [49, 50, 51, 52] st s) (fun s hp => ⟨s, rfl, rfl, hp⟩))
    exact ⟨s, mI_X8_add (d := d + 1) (Nat.le_of_ble_eq_true rfl) hw, hp⟩
  intro Q hq
  refine w_blk 2 (pc' := 4) (ls' := [some (.ref 49), some (.int (nI t)), some (.int (nI c)), some (.int (nI u))]) (sk' := [.int (st.1 49 0)]) (st' := st) (fun _ h => h) ?_
  rw [hP.1]
  refine w_blk 1 (pc' := 6) (ls' := [some (.ref 49), some (.int (nI t)), some (.int (nI c)), some (.int (nI u))]) (sk' := [.int 30, .int (nI a)]) (st' := st) (fun _ h => h) ?_
  refine w_cmp_lt rfl (fun h1 => ?_) (fun h1 => ?_)
  · replace h1 : a < 30 := (nI_ltI (a := a) (b := 30) (by omega) (by omega)).mp h1
    refine w_blk 4 (pc' := 19) (ls' := [some (.ref 49), some (.int (nI t)), some (.int (nI c)), some (.int (nI u))]) (sk' := [.int (st.1 49 0), .ref 50]) (st' := st) (fun _ h => h) ?_
    rw [hP.1]
    refine w_blk 1 (pc' := 20) (ls' := [some (.ref 49), some (.int (nI t)), some (.int (nI c)), some (.int (nI u))]) (sk' := [.int (nI t), .int (nI a), .ref 50]) (st' := st) (fun _ h => h) ?_
    refine w_callS (As := [.ref 50, .int (nI a), .int (nI t)]) (rest := []) rfl rfl rfl (Nat.le_of_ble_eq_true rfl) (Nat.le_of_ble_eq_true rfl) (c_putK (d + 0) 50 30 a (nI t) st (by omega) (by decide) rfl) ?_
    refine w_blk 4 (pc' := 31) (ls' := [some (.ref 49), some (.int (nI t)), some (.int (nI c)), some (.int (nI u))]) (sk' := [.int (st.1 49 0), .ref 51]) (st' := ((mU st.1 50 a (nI t)), st.2)) (fun _ h => h) ?_
    rw [hP.1]
    refine w_blk 1 (pc' := 32) (ls' := [some (.ref 49), some (.int (nI t)), some (.int (nI c)), some (.int (nI u))]) (sk' := [.int (nI c), .int (nI a), .ref 51]) (st' := ((mU st.1 50 a (nI t)), st.2)) (fun _ h => h) ?_
    refine w_callS (As := [.ref 51, .int (nI a), .int (nI c)]) (rest := []) rfl rfl rfl (Nat.le_of_ble_eq_true rfl) (Nat.le_of_ble_eq_true rfl) (c_putK (d + 0) 51 30 a (nI c) ((mU st.1 50 a (nI t)), st.2) (by omega) (by decide) rfl) ?_
    refine w_blk 4 (pc' := 43) (ls' := [some (.ref 49), some (.int (nI t)), some (.int (nI c)), some (.int (nI u))]) (sk' := [.int (st.1 49 0), .ref 52]) (st' := ((mU (mU st.1 50 a (nI t)) 51 a (nI c)), st.2)) (fun _ h => h) ?_
    rw [hP.1]
    refine w_blk 1 (pc' := 44) (ls' := [some (.ref 49), some (.int (nI t)), some (.int (nI c)), some (.int (nI u))]) (sk' := [.int (nI u), .int (nI a), .ref 52]) (st' := ((mU (mU st.1 50 a (nI t)) 51 a (nI c)), st.2)) (fun _ h => h) ?_
    refine w_callS (As := [.ref 52, .int (nI a), .int (nI u)]) (rest := []) rfl rfl rfl (Nat.le_of_ble_eq_true rfl) (Nat.le_of_ble_eq_true rfl) (c_putK (d + 0) 52 30 a (nI u) ((mU (mU st.1 50 a (nI t)) 51 a (nI c)), st.2) (by omega) (by decide) rfl) ?_
    refine w_blk 3 (pc' := 52) (ls' := [some (.ref 49), some (.int (nI t)), some (.int (nI c)), some (.int (nI u))]) (sk' := [.int (st.1 49 0), .ref 49]) (st' := ((mU (mU (mU st.1 50 a (nI t)) 51 a (nI c)) 52 a (nI u)), st.2)) (fun _ h => h) ?_
    rw [hP.1]
    refine w_blk 2 (pc' := 54) (ls' := [some (.ref 49), some (.int (nI t)), some (.int (nI c)), some (.int (nI u))]) (sk' := [.int ((nI a) + 1), .ref 49]) (st' := ((mU (mU (mU st.1 50 a (nI t)) 51 a (nI c)) 52 a (nI u)), st.2)) (fun _ h => h) ?_
    rw [show ((nI a) + 1) = nI (a + 1) from nI_add a 1]
    refine w_blk 2 (pc' := 58) (ls' := [some (.ref 49), some (.int (nI t)), some (.int (nI c)), some (.int (nI u))]) (sk' := [.int 1]) (st' := ((mU (mU (mU (mU st.1 50 a (nI t)) 51 a (nI c)) 52 a (nI u)) 49 0 (nI (a + 1))), st.2)) (fun _ h => h) ?_
    exact w_iret rfl rfl rfl (by have hh := hq ((mU (mU (mU (mU st.1 50 a (nI t)) 51 a (nI c)) 52 a (nI u)) 49 0 (nI (a + 1))), st.2); rw [pI_t (show a < 30 by omega), show ad_a a 30 = a + 1 from if_pos (show a < 30 by omega)] at hh; exact hh ⟨XT_add hP t c u, (Fr.trans (Fr.trans (Fr.trans (Fr.trans (Fr.rf : Fr [49, 50, 51, 52] st st) (Fr.mU (by decide))) (Fr.mU (by decide))) (Fr.mU (by decide))) (Fr.mU (by decide)))⟩)
  · replace h1 : ¬ (a < 30) := fun hh => h1 ((nI_ltI (a := a) (b := 30) (by omega) (by omega)).mpr hh)
    refine w_blk 1 (pc' := 10) (ls' := [some (.ref 49), some (.int (nI t)), some (.int (nI c)), some (.int (nI u))]) (sk' := [.int 0]) (st' := st) (fun _ h => h) ?_
    exact w_iret rfl rfl rfl (by have hh := hq st; rw [pI_f (show ¬ a < 30 by omega), show ad_a a 30 = a from if_neg (show ¬ a < 30 by omega)] at hh; exact hh ⟨XT_no hP t c u, Fr.rf⟩)
set_option maxRecDepth 20000 in
/-- hole -/
theorem x_hole (d : Nat) (a : Nat) (T C U : Nat → Nat) (t c u : Int32) (st : mSt) (hP : XH st a T C U) (ha : a ≤ 8) : ∃ (s : mSt), mMC mT (d + 3) 103 [.ref 0, .int t, .int c, .int u] st (some (.int (sp_hole a t c u))) s ∧ XH s (hl_a a t c u) (updN T a t.toNatClampNeg) (updN C a c.toNatClampNeg) (updN U a u.toNatClampNeg) ∧ Fr [45, 46, 47, 48] st s := by
  suffices H : ∀ Q : Option Value → mSt → Prop, (∀ (s : mSt), (XH s (hl_a a t c u) (updN T a t.toNatClampNeg) (updN C a c.toNatClampNeg) (updN U a u.toNatClampNeg) ∧ Fr [45, 46, 47, 48] st s) → Q (some (.int (sp_hole a t c u))) s) → mW (mMC mT (d + 2)) (0, fun _ => 0) (mAtL P_X9_hole) (some .int) Q 0 [some (.ref 0), some (.int t), some (.int c), some (.int u)] [] st by
    obtain ⟨_, _, ⟨s, rfl, rfl, hp⟩, hw⟩ := mW_ex (H (fun vv tt => ∃ (s : mSt),  vv = some (.int (sp_hole a t c u)) ∧ s = tt ∧ XH s (hl_a a t c u) (updN T a t.toNatClampNeg) (updN C a c.toNatClampNeg) (updN U a u.toNatClampNeg) ∧ Fr [45, 46, 47, 48] st s) (fun s hp => ⟨s, rfl, rfl, hp⟩))
    exact ⟨s, mI_X9_hole (d := d + 2) (Nat.le_of_ble_eq_true rfl) hw, hp⟩
  intro Q hq
  refine w_blk 3 (pc' := 4) (ls' := [some (.ref 0), some (.int t), some (.int c), some (.int u)]) (sk' := [.int 99, .int 0, .int t]) (st' := st) (fun _ h => h) ?_
  refine w_callS (As := [.int t, .int 0, .int 99]) (rest := []) rfl rfl rfl (Nat.le_of_ble_eq_true rfl) (Nat.le_of_ble_eq_true rfl) (c_within (d + 1) t 0 99 st) ?_
  refine w_if_eq rfl (fun h1 => ?_) (fun h1 => ?_)
  · replace h1 := pI_eq0.mp h1
    refine w_blk 1 (pc' := 32) (ls' := [some (.ref 0), some (.int t), some (.int c), some (.int u)]) (sk' := [.int (-1)]) (st' := st) (fun _ h => h) ?_
    have hno : ¬ okH t c u := fun hh => by first | exact h1 hh.1 | exact h2 hh.2.1 | exact h3 hh.2.2
    exact w_iret rfl rfl rfl (by have hh := hq st; rw [show sp_hole a t c u = -1 from if_neg hno, show hl_a a t c u = a from if_neg (fun e => hno e.1)] at hh; exact hh ⟨XH_no hP _ _ _, Fr.rf⟩)
  · replace h1 := pI_ne.mp h1
    refine w_blk 3 (pc' := 14) (ls' := [some (.ref 0), some (.int t), some (.int c), some (.int u)]) (sk' := [.int 99, .int 1, .int c]) (st' := st) (fun _ h => h) ?_
    refine w_callS (As := [.int c, .int 1, .int 99]) (rest := []) rfl rfl rfl (Nat.le_of_ble_eq_true rfl) (Nat.le_of_ble_eq_true rfl) (c_within (d + 1) c 1 99 st) ?_
    refine w_if_eq rfl (fun h2 => ?_) (fun h2 => ?_)
    · replace h2 := pI_eq0.mp h2
      refine w_blk 1 (pc' := 32) (ls' := [some (.ref 0), some (.int t), some (.int c), some (.int u)]) (sk' := [.int (-1)]) (st' := st) (fun _ h => h) ?_
      have hno : ¬ okH t c u := fun hh => by first | exact h1 hh.1 | exact h2 hh.2.1 | exact h3 hh.2.2
      exact w_iret rfl rfl rfl (by have hh := hq st; rw [show sp_hole a t c u = -1 from if_neg hno, show hl_a a t c u = a from if_neg (fun e => hno e.1)] at hh; exact hh ⟨XH_no hP _ _ _, Fr.rf⟩)
    · replace h2 := pI_ne.mp h2
      refine w_blk 3 (pc' := 25) (ls' := [some (.ref 0), some (.int t), some (.int c), some (.int u)]) (sk' := [.int 200, .int t, .int u]) (st' := st) (fun _ h => h) ?_
      refine w_callS (As := [.int u, .int t, .int 200]) (rest := []) rfl rfl rfl (Nat.le_of_ble_eq_true rfl) (Nat.le_of_ble_eq_true rfl) (c_within (d + 1) u t 200 st) ?_
      refine w_if_ne rfl (fun h3 => ?_) (fun h3 => ?_)
      · replace h3 := pI_ne.mp h3
        have hok : okH t c u := ⟨h1, h2, h3⟩
        obtain ⟨t', -, ht99, rfl⟩ := nI_within (a := 0) (b := 99) h1 (by decide) (by decide)
        obtain ⟨c', hc1, hc99, rfl⟩ := nI_within (a := 1) (b := 99) h2 (by decide) (by decide)
        obtain ⟨u', htu, hu200, rfl⟩ := nI_within (a := t') (b := 200) h3 (by omega) (by decide)
        refine w_blk 5 (pc' := 40) (ls' := [some (.ref 0), some (.int (nI t')), some (.int (nI c')), some (.int (nI u'))]) (sk' := [.int (nI u'), .int (nI c'), .int (nI t'), .ref 45]) (st' := st) (fun _ h => h) ?_
        obtain ⟨s1, hc_2, hP_3, hf_4⟩ := c_holeAdd (d + 0) a T C U t' c' u' st hP ha
        refine w_callV (As := [.ref 45, .int (nI t'), .int (nI c'), .int (nI u')]) (rest := []) rfl rfl rfl (Nat.le_of_ble_eq_true rfl) (Nat.le_of_ble_eq_true rfl) (by first | exact Or.inl ⟨rfl, rfl⟩ | exact Or.inr ⟨rfl, rfl⟩) hc_2 ?_
        refine w_if_eq rfl (fun h4 => ?_) (fun h4 => ?_)
        · replace h4 := pI_eq0.mp h4
          refine w_blk 1 (pc' := 58) (ls' := [some (.ref 0), some (.int (nI t')), some (.int (nI c')), some (.int (nI u'))]) (sk' := [.int (-3)]) (st' := s1) (fun _ h => h) ?_
          have ec1 := nI_clamp (show t' < 2 ^ 31 by omega)
          have ec2 := nI_clamp (show c' < 2 ^ 31 by omega)
          have ec3 := nI_clamp (show u' < 2 ^ 31 by omega)
          exact w_iret rfl rfl rfl (by have hh := hq s1; rw [show sp_hole a (nI t') (nI c') (nI u') = -3 from (if_pos hok).trans (if_neg h4), show hl_a a (nI t') (nI c') (nI u') = ad_a a 8 from (if_neg (fun e => h4 e.2)).trans (if_neg h4).symm, ec1, ec2, ec3] at hh; exact hh ⟨hP_3, hf_4⟩)
        · replace h4 := pI_ne.mp h4
          refine w_blk 3 (pc' := 53) (ls' := [some (.ref 0), some (.int (nI t')), some (.int (nI c')), some (.int (nI u'))]) (sk' := [.int (s1.1 45 0)]) (st' := s1) (fun _ h => h) ?_
          rw [hP_3.1]
          refine w_blk 1 (pc' := 58) (ls' := [some (.ref 0), some (.int (nI t')), some (.int (nI c')), some (.int (nI u'))]) (sk' := [.int (nI (ad_a a 8))]) (st' := s1) (fun _ h => h) ?_
          have ec1 := nI_clamp (show t' < 2 ^ 31 by omega)
          have ec2 := nI_clamp (show c' < 2 ^ 31 by omega)
          have ec3 := nI_clamp (show u' < 2 ^ 31 by omega)
          exact w_iret rfl rfl rfl (by have hh := hq s1; rw [show sp_hole a (nI t') (nI c') (nI u') = nI (ad_a a 8) from (if_pos hok).trans ((if_pos h4).trans (by rw [show ad_a a 8 = a + 1 from if_pos h4])), show hl_a a (nI t') (nI c') (nI u') = ad_a a 8 from (if_pos ⟨hok, h4⟩).trans (if_pos h4).symm, ec1, ec2, ec3] at hh; exact hh ⟨hP_3, hf_4⟩)
      · replace h3 := pI_eq0.mp (Decidable.not_not.mp h3)
        refine w_blk 1 (pc' := 32) (ls' := [some (.ref 0), some (.int t), some (.int c), some (.int u)]) (sk' := [.int (-1)]) (st' := st) (fun _ h => h) ?_
        have hno : ¬ okH t c u := fun hh => by first | exact h1 hh.1 | exact h2 hh.2.1 | exact h3 hh.2.2
        exact w_iret rfl rfl rfl (by have hh := hq st; rw [show sp_hole a t c u = -1 from if_neg hno, show hl_a a t c u = a from if_neg (fun e => hno e.1)] at hh; exact hh ⟨XH_no hP _ _ _, Fr.rf⟩)
set_option maxRecDepth 20000 in
/-- tell -/
theorem x_tell_5 (d : Nat) (n : Nat → Nat) (c : Nat → Nat → Nat) (a : Nat) (T C U : Nat → Nat) (r x y : Int32) (st : mSt) (hcw : st.1 0 1 = nI 5) (hX : X5 st n c) (hB : CB n c) (hP : XT st a T C U) (ha : a ≤ 30) : ∃ (s : mSt), mMC mT (d + 3) 107 [.ref 0, .int r, .int x, .int y] st (some (.int (sp_tell n a r x y))) s ∧ XT s (tl_a n a r x y) (updN T a r.toNatClampNeg) (updN C a x.toNatClampNeg) (updN U a y.toNatClampNeg) ∧ Fr [49, 50, 51, 52] st s := by
  suffices H : ∀ Q : Option Value → mSt → Prop, (∀ (s : mSt), (XT s (tl_a n a r x y) (updN T a r.toNatClampNeg) (updN C a x.toNatClampNeg) (updN U a y.toNatClampNeg) ∧ Fr [49, 50, 51, 52] st s) → Q (some (.int (sp_tell n a r x y))) s) → mW (mMC mT (d + 2)) (0, fun _ => 0) (mAtL P_X9_tell) (some .int) Q 0 [some (.ref 0), some (.int r), some (.int x), some (.int y)] [] st by
    obtain ⟨_, _, ⟨s, rfl, rfl, hp⟩, hw⟩ := mW_ex (H (fun vv tt => ∃ (s : mSt),  vv = some (.int (sp_tell n a r x y)) ∧ s = tt ∧ XT s (tl_a n a r x y) (updN T a r.toNatClampNeg) (updN C a x.toNatClampNeg) (updN U a y.toNatClampNeg) ∧ Fr [49, 50, 51, 52] st s) (fun s hp => ⟨s, rfl, rfl, hp⟩))
    exact ⟨s, mI_X9_tell (d := d + 2) (Nat.le_of_ble_eq_true rfl) hw, hp⟩
  intro Q hq
  have hcr : (st.1 0 1).toNatClampNeg = 5 := by rw [hcw]; rfl
  obtain ⟨hb0, hb1, hb2, hbd, hbs, hby⟩ := id hB
  refine w_blk 3 (pc' := 4) (ls' := [some (.ref 0), some (.int r), some (.int x), some (.int y)]) (sk' := [.int 99, .int 0, .int r]) (st' := st) (fun _ h => h) ?_
  refine w_callS (As := [.int r, .int 0, .int 99]) (rest := []) rfl rfl rfl (Nat.le_of_ble_eq_true rfl) (Nat.le_of_ble_eq_true rfl) (c_within (d + 1) r 0 99 st) ?_
  refine w_if_eq rfl (fun h1 => ?_) (fun h1 => ?_)
  · replace h1 := pI_eq0.mp h1
    refine w_blk 1 (pc' := 33) (ls' := [some (.ref 0), some (.int r), some (.int x), some (.int y)]) (sk' := [.int (-1)]) (st' := st) (fun _ h => h) ?_
    have hno : ¬ okT n r x y := fun hh => by first | exact h1 hh.1 | exact h2 hh.2.1 | exact h3 hh.2.2
    exact w_iret rfl rfl rfl (by have hh := hq st; rw [show sp_tell n a r x y = -1 from if_neg hno, show tl_a n a r x y = a from if_neg (fun e => hno e.1)] at hh; exact hh ⟨XT_no hP _ _ _, Fr.rf⟩)
  · replace h1 := pI_ne.mp h1
    refine w_blk 1 (pc' := 11) (ls' := [some (.ref 0), some (.int r), some (.int x), some (.int y)]) (sk' := [.ref 0]) (st' := st) (fun _ h => h) ?_
    refine w_blk 1 (pc' := 14) (ls' := [some (.ref 0), some (.int r), some (.int x), some (.int y)]) (sk' := [.ref (Int32.toNatClampNeg (st.1 0 1))]) (st' := st) (fun _ h => h) ?_
    rw [show Int32.toNatClampNeg (st.1 0 1) = 5 from hcr]
    refine w_blk 1 (pc' := 15) (ls' := [some (.ref 0), some (.int r), some (.int x), some (.int y)]) (sk' := [.int x, .ref 5]) (st' := st) (fun _ h => h) ?_
    refine w_callV (As := [.ref 5, .int x]) (rest := []) rfl rfl rfl (Nat.le_of_ble_eq_true rfl) (Nat.le_of_ble_eq_true rfl) (by first | exact Or.inl ⟨rfl, rfl⟩ | exact Or.inr ⟨rfl, rfl⟩) (c_hasDigger_5 (d + 1) x st) ?_
    rw [hX.1]
    refine w_if_eq rfl (fun h2 => ?_) (fun h2 => ?_)
    · replace h2 := pI_eq0.mp h2
      refine w_blk 1 (pc' := 33) (ls' := [some (.ref 0), some (.int r), some (.int x), some (.int y)]) (sk' := [.int (-1)]) (st' := st) (fun _ h => h) ?_
      have hno : ¬ okT n r x y := fun hh => by first | exact h1 hh.1 | exact h2 hh.2.1 | exact h3 hh.2.2
      exact w_iret rfl rfl rfl (by have hh := hq st; rw [show sp_tell n a r x y = -1 from if_neg hno, show tl_a n a r x y = a from if_neg (fun e => hno e.1)] at hh; exact hh ⟨XT_no hP _ _ _, Fr.rf⟩)
    · replace h2 := pI_ne.mp h2
      refine w_blk 1 (pc' := 22) (ls' := [some (.ref 0), some (.int r), some (.int x), some (.int y)]) (sk' := [.ref 0]) (st' := st) (fun _ h => h) ?_
      refine w_blk 1 (pc' := 25) (ls' := [some (.ref 0), some (.int r), some (.int x), some (.int y)]) (sk' := [.ref (Int32.toNatClampNeg (st.1 0 1))]) (st' := st) (fun _ h => h) ?_
      rw [show Int32.toNatClampNeg (st.1 0 1) = 5 from hcr]
      refine w_blk 1 (pc' := 26) (ls' := [some (.ref 0), some (.int r), some (.int x), some (.int y)]) (sk' := [.int y, .ref 5]) (st' := st) (fun _ h => h) ?_
      refine w_callV (As := [.ref 5, .int y]) (rest := []) rfl rfl rfl (Nat.le_of_ble_eq_true rfl) (Nat.le_of_ble_eq_true rfl) (by first | exact Or.inl ⟨rfl, rfl⟩ | exact Or.inr ⟨rfl, rfl⟩) (c_hasSpade_5 (d + 1) y st) ?_
      rw [hX.2.1]
      refine w_if_ne rfl (fun h3 => ?_) (fun h3 => ?_)
      · replace h3 := pI_ne.mp h3
        have hok : okT n r x y := ⟨h1, h2, h3⟩
        obtain ⟨r', -, hr99, rfl⟩ := nI_within (a := 0) (b := 99) h1 (by decide) (by decide)
        obtain ⟨k, hk, rfl⟩ := nI_in2 (by omega) h2
        obtain ⟨j, hj, rfl⟩ := nI_in2 (by omega) h3
        refine w_blk 5 (pc' := 41) (ls' := [some (.ref 0), some (.int (nI r')), some (.int (nI k)), some (.int (nI j))]) (sk' := [.int (nI j), .int (nI k), .int (nI r'), .ref 49]) (st' := st) (fun _ h => h) ?_
        obtain ⟨s1, hc_2, hP_3, hf_4⟩ := c_toldAdd (d + 0) a T C U r' k j st hP ha
        refine w_callV (As := [.ref 49, .int (nI r'), .int (nI k), .int (nI j)]) (rest := []) rfl rfl rfl (Nat.le_of_ble_eq_true rfl) (Nat.le_of_ble_eq_true rfl) (by first | exact Or.inl ⟨rfl, rfl⟩ | exact Or.inr ⟨rfl, rfl⟩) hc_2 ?_
        refine w_if_eq rfl (fun h4 => ?_) (fun h4 => ?_)
        · replace h4 := pI_eq0.mp h4
          refine w_blk 1 (pc' := 59) (ls' := [some (.ref 0), some (.int (nI r')), some (.int (nI k)), some (.int (nI j))]) (sk' := [.int (-3)]) (st' := s1) (fun _ h => h) ?_
          have ec1 := nI_clamp (show r' < 2 ^ 31 by omega)
          have ec2 := nI_clamp (show k < 2 ^ 31 by omega)
          have ec3 := nI_clamp (show j < 2 ^ 31 by omega)
          exact w_iret rfl rfl rfl (by have hh := hq s1; rw [show sp_tell n a (nI r') (nI k) (nI j) = -3 from (if_pos hok).trans (if_neg h4), show tl_a n a (nI r') (nI k) (nI j) = ad_a a 30 from (if_neg (fun e => h4 e.2)).trans (if_neg h4).symm, ec1, ec2, ec3] at hh; exact hh ⟨hP_3, hf_4⟩)
        · replace h4 := pI_ne.mp h4
          refine w_blk 3 (pc' := 54) (ls' := [some (.ref 0), some (.int (nI r')), some (.int (nI k)), some (.int (nI j))]) (sk' := [.int (s1.1 49 0)]) (st' := s1) (fun _ h => h) ?_
          rw [hP_3.1]
          refine w_blk 1 (pc' := 59) (ls' := [some (.ref 0), some (.int (nI r')), some (.int (nI k)), some (.int (nI j))]) (sk' := [.int (nI (ad_a a 30))]) (st' := s1) (fun _ h => h) ?_
          have ec1 := nI_clamp (show r' < 2 ^ 31 by omega)
          have ec2 := nI_clamp (show k < 2 ^ 31 by omega)
          have ec3 := nI_clamp (show j < 2 ^ 31 by omega)
          exact w_iret rfl rfl rfl (by have hh := hq s1; rw [show sp_tell n a (nI r') (nI k) (nI j) = nI (ad_a a 30) from (if_pos hok).trans ((if_pos h4).trans (by rw [show ad_a a 30 = a + 1 from if_pos h4])), show tl_a n a (nI r') (nI k) (nI j) = ad_a a 30 from (if_pos ⟨hok, h4⟩).trans (if_pos h4).symm, ec1, ec2, ec3] at hh; exact hh ⟨hP_3, hf_4⟩)
      · replace h3 := pI_eq0.mp (Decidable.not_not.mp h3)
        refine w_blk 1 (pc' := 33) (ls' := [some (.ref 0), some (.int r), some (.int x), some (.int y)]) (sk' := [.int (-1)]) (st' := st) (fun _ h => h) ?_
        have hno : ¬ okT n r x y := fun hh => by first | exact h1 hh.1 | exact h2 hh.2.1 | exact h3 hh.2.2
        exact w_iret rfl rfl rfl (by have hh := hq st; rw [show sp_tell n a r x y = -1 from if_neg hno, show tl_a n a r x y = a from if_neg (fun e => hno e.1)] at hh; exact hh ⟨XT_no hP _ _ _, Fr.rf⟩)
set_option maxRecDepth 20000 in
/-- tell -/
theorem x_tell_13 (d : Nat) (n : Nat → Nat) (c : Nat → Nat → Nat) (a : Nat) (T C U : Nat → Nat) (r x y : Int32) (st : mSt) (hcw : st.1 0 1 = nI 13) (hX : X13 st n c) (hB : CB n c) (hP : XT st a T C U) (ha : a ≤ 30) : ∃ (s : mSt), mMC mT (d + 3) 107 [.ref 0, .int r, .int x, .int y] st (some (.int (sp_tell n a r x y))) s ∧ XT s (tl_a n a r x y) (updN T a r.toNatClampNeg) (updN C a x.toNatClampNeg) (updN U a y.toNatClampNeg) ∧ Fr [49, 50, 51, 52] st s := by
  suffices H : ∀ Q : Option Value → mSt → Prop, (∀ (s : mSt), (XT s (tl_a n a r x y) (updN T a r.toNatClampNeg) (updN C a x.toNatClampNeg) (updN U a y.toNatClampNeg) ∧ Fr [49, 50, 51, 52] st s) → Q (some (.int (sp_tell n a r x y))) s) → mW (mMC mT (d + 2)) (0, fun _ => 0) (mAtL P_X9_tell) (some .int) Q 0 [some (.ref 0), some (.int r), some (.int x), some (.int y)] [] st by
    obtain ⟨_, _, ⟨s, rfl, rfl, hp⟩, hw⟩ := mW_ex (H (fun vv tt => ∃ (s : mSt),  vv = some (.int (sp_tell n a r x y)) ∧ s = tt ∧ XT s (tl_a n a r x y) (updN T a r.toNatClampNeg) (updN C a x.toNatClampNeg) (updN U a y.toNatClampNeg) ∧ Fr [49, 50, 51, 52] st s) (fun s hp => ⟨s, rfl, rfl, hp⟩))
    exact ⟨s, mI_X9_tell (d := d + 2) (Nat.le_of_ble_eq_true rfl) hw, hp⟩
  intro Q hq
  have hcr : (st.1 0 1).toNatClampNeg = 13 := by rw [hcw]; rfl
  obtain ⟨hb0, hb1, hb2, hbd, hbs, hby⟩ := id hB
  refine w_blk 3 (pc' := 4) (ls' := [some (.ref 0), some (.int r), some (.int x), some (.int y)]) (sk' := [.int 99, .int 0, .int r]) (st' := st) (fun _ h => h) ?_
  refine w_callS (As := [.int r, .int 0, .int 99]) (rest := []) rfl rfl rfl (Nat.le_of_ble_eq_true rfl) (Nat.le_of_ble_eq_true rfl) (c_within (d + 1) r 0 99 st) ?_
  refine w_if_eq rfl (fun h1 => ?_) (fun h1 => ?_)
  · replace h1 := pI_eq0.mp h1
    refine w_blk 1 (pc' := 33) (ls' := [some (.ref 0), some (.int r), some (.int x), some (.int y)]) (sk' := [.int (-1)]) (st' := st) (fun _ h => h) ?_
    have hno : ¬ okT n r x y := fun hh => by first | exact h1 hh.1 | exact h2 hh.2.1 | exact h3 hh.2.2
    exact w_iret rfl rfl rfl (by have hh := hq st; rw [show sp_tell n a r x y = -1 from if_neg hno, show tl_a n a r x y = a from if_neg (fun e => hno e.1)] at hh; exact hh ⟨XT_no hP _ _ _, Fr.rf⟩)
  · replace h1 := pI_ne.mp h1
    refine w_blk 1 (pc' := 11) (ls' := [some (.ref 0), some (.int r), some (.int x), some (.int y)]) (sk' := [.ref 0]) (st' := st) (fun _ h => h) ?_
    refine w_blk 1 (pc' := 14) (ls' := [some (.ref 0), some (.int r), some (.int x), some (.int y)]) (sk' := [.ref (Int32.toNatClampNeg (st.1 0 1))]) (st' := st) (fun _ h => h) ?_
    rw [show Int32.toNatClampNeg (st.1 0 1) = 13 from hcr]
    refine w_blk 1 (pc' := 15) (ls' := [some (.ref 0), some (.int r), some (.int x), some (.int y)]) (sk' := [.int x, .ref 13]) (st' := st) (fun _ h => h) ?_
    refine w_callV (As := [.ref 13, .int x]) (rest := []) rfl rfl rfl (Nat.le_of_ble_eq_true rfl) (Nat.le_of_ble_eq_true rfl) (by first | exact Or.inl ⟨rfl, rfl⟩ | exact Or.inr ⟨rfl, rfl⟩) (c_hasDigger_13 (d + 1) x st) ?_
    rw [hX.1]
    refine w_if_eq rfl (fun h2 => ?_) (fun h2 => ?_)
    · replace h2 := pI_eq0.mp h2
      refine w_blk 1 (pc' := 33) (ls' := [some (.ref 0), some (.int r), some (.int x), some (.int y)]) (sk' := [.int (-1)]) (st' := st) (fun _ h => h) ?_
      have hno : ¬ okT n r x y := fun hh => by first | exact h1 hh.1 | exact h2 hh.2.1 | exact h3 hh.2.2
      exact w_iret rfl rfl rfl (by have hh := hq st; rw [show sp_tell n a r x y = -1 from if_neg hno, show tl_a n a r x y = a from if_neg (fun e => hno e.1)] at hh; exact hh ⟨XT_no hP _ _ _, Fr.rf⟩)
    · replace h2 := pI_ne.mp h2
      refine w_blk 1 (pc' := 22) (ls' := [some (.ref 0), some (.int r), some (.int x), some (.int y)]) (sk' := [.ref 0]) (st' := st) (fun _ h => h) ?_
      refine w_blk 1 (pc' := 25) (ls' := [some (.ref 0), some (.int r), some (.int x), some (.int y)]) (sk' := [.ref (Int32.toNatClampNeg (st.1 0 1))]) (st' := st) (fun _ h => h) ?_
      rw [show Int32.toNatClampNeg (st.1 0 1) = 13 from hcr]
      refine w_blk 1 (pc' := 26) (ls' := [some (.ref 0), some (.int r), some (.int x), some (.int y)]) (sk' := [.int y, .ref 13]) (st' := st) (fun _ h => h) ?_
      refine w_callV (As := [.ref 13, .int y]) (rest := []) rfl rfl rfl (Nat.le_of_ble_eq_true rfl) (Nat.le_of_ble_eq_true rfl) (by first | exact Or.inl ⟨rfl, rfl⟩ | exact Or.inr ⟨rfl, rfl⟩) (c_hasSpade_13 (d + 1) y st) ?_
      rw [hX.2.1]
      refine w_if_ne rfl (fun h3 => ?_) (fun h3 => ?_)
      · replace h3 := pI_ne.mp h3
        have hok : okT n r x y := ⟨h1, h2, h3⟩
        obtain ⟨r', -, hr99, rfl⟩ := nI_within (a := 0) (b := 99) h1 (by decide) (by decide)
        obtain ⟨k, hk, rfl⟩ := nI_in2 (by omega) h2
        obtain ⟨j, hj, rfl⟩ := nI_in2 (by omega) h3
        refine w_blk 5 (pc' := 41) (ls' := [some (.ref 0), some (.int (nI r')), some (.int (nI k)), some (.int (nI j))]) (sk' := [.int (nI j), .int (nI k), .int (nI r'), .ref 49]) (st' := st) (fun _ h => h) ?_
        obtain ⟨s1, hc_2, hP_3, hf_4⟩ := c_toldAdd (d + 0) a T C U r' k j st hP ha
        refine w_callV (As := [.ref 49, .int (nI r'), .int (nI k), .int (nI j)]) (rest := []) rfl rfl rfl (Nat.le_of_ble_eq_true rfl) (Nat.le_of_ble_eq_true rfl) (by first | exact Or.inl ⟨rfl, rfl⟩ | exact Or.inr ⟨rfl, rfl⟩) hc_2 ?_
        refine w_if_eq rfl (fun h4 => ?_) (fun h4 => ?_)
        · replace h4 := pI_eq0.mp h4
          refine w_blk 1 (pc' := 59) (ls' := [some (.ref 0), some (.int (nI r')), some (.int (nI k)), some (.int (nI j))]) (sk' := [.int (-3)]) (st' := s1) (fun _ h => h) ?_
          have ec1 := nI_clamp (show r' < 2 ^ 31 by omega)
          have ec2 := nI_clamp (show k < 2 ^ 31 by omega)
          have ec3 := nI_clamp (show j < 2 ^ 31 by omega)
          exact w_iret rfl rfl rfl (by have hh := hq s1; rw [show sp_tell n a (nI r') (nI k) (nI j) = -3 from (if_pos hok).trans (if_neg h4), show tl_a n a (nI r') (nI k) (nI j) = ad_a a 30 from (if_neg (fun e => h4 e.2)).trans (if_neg h4).symm, ec1, ec2, ec3] at hh; exact hh ⟨hP_3, hf_4⟩)
        · replace h4 := pI_ne.mp h4
          refine w_blk 3 (pc' := 54) (ls' := [some (.ref 0), some (.int (nI r')), some (.int (nI k)), some (.int (nI j))]) (sk' := [.int (s1.1 49 0)]) (st' := s1) (fun _ h => h) ?_
          rw [hP_3.1]
          refine w_blk 1 (pc' := 59) (ls' := [some (.ref 0), some (.int (nI r')), some (.int (nI k)), some (.int (nI j))]) (sk' := [.int (nI (ad_a a 30))]) (st' := s1) (fun _ h => h) ?_
          have ec1 := nI_clamp (show r' < 2 ^ 31 by omega)
          have ec2 := nI_clamp (show k < 2 ^ 31 by omega)
          have ec3 := nI_clamp (show j < 2 ^ 31 by omega)
          exact w_iret rfl rfl rfl (by have hh := hq s1; rw [show sp_tell n a (nI r') (nI k) (nI j) = nI (ad_a a 30) from (if_pos hok).trans ((if_pos h4).trans (by rw [show ad_a a 30 = a + 1 from if_pos h4])), show tl_a n a (nI r') (nI k) (nI j) = ad_a a 30 from (if_pos ⟨hok, h4⟩).trans (if_pos h4).symm, ec1, ec2, ec3] at hh; exact hh ⟨hP_3, hf_4⟩)
      · replace h3 := pI_eq0.mp (Decidable.not_not.mp h3)
        refine w_blk 1 (pc' := 33) (ls' := [some (.ref 0), some (.int r), some (.int x), some (.int y)]) (sk' := [.int (-1)]) (st' := st) (fun _ h => h) ?_
        have hno : ¬ okT n r x y := fun hh => by first | exact h1 hh.1 | exact h2 hh.2.1 | exact h3 hh.2.2
        exact w_iret rfl rfl rfl (by have hh := hq st; rw [show sp_tell n a r x y = -1 from if_neg hno, show tl_a n a r x y = a from if_neg (fun e => hno e.1)] at hh; exact hh ⟨XT_no hP _ _ _, Fr.rf⟩)
set_option maxRecDepth 20000 in
/-- dry -/
theorem x_dry (d : Nat) (a : Nat) (T C U : Nat → Nat) (st : mSt) (hP : XH st a T C U) : ∃ (s : mSt), mMC mT (d + 1) 106 [.ref 0] st (some (.int (nI a))) s ∧ XH s 0 T C U ∧ Fr [45, 46, 47, 48] st s := by
  suffices H : ∀ Q : Option Value → mSt → Prop, (∀ (s : mSt), (XH s 0 T C U ∧ Fr [45, 46, 47, 48] st s) → Q (some (.int (nI a))) s) → mW (mMC mT (d + 0)) (0, fun _ => 0) (mAtL P_X9_dry) (some .int) Q 0 [some (.ref 0), none] [] st by
    obtain ⟨_, _, ⟨s, rfl, rfl, hp⟩, hw⟩ := mW_ex (H (fun vv tt => ∃ (s : mSt),  vv = some (.int (nI a)) ∧ s = tt ∧ XH s 0 T C U ∧ Fr [45, 46, 47, 48] st s) (fun s hp => ⟨s, rfl, rfl, hp⟩))
    exact ⟨s, mI_X9_dry (d := d + 0) (Nat.le_of_ble_eq_true rfl) hw, hp⟩
  intro Q hq
  refine w_blk 3 (pc' := 7) (ls' := [some (.ref 0), none]) (sk' := [.int (st.1 45 0)]) (st' := st) (fun _ h => h) ?_
  rw [hP.1]
  refine w_blk 6 (pc' := 17) (ls' := [some (.ref 0), some (.int (nI a))]) (sk' := [.int (nI a)]) (st' := ((mU st.1 45 0 0), st.2)) (fun _ h => h) ?_
  exact w_iret rfl rfl rfl (hq _ ⟨⟨rfl, fun k hk => absurd hk (by omega)⟩, Fr.trans Fr.rf (Fr.mU (by decide))⟩)
set_option maxRecDepth 20000 in
/-- imageAt(0) -/
theorem c_imageAt_0 (d : Nat)  (st : mSt) : mMC mT (d + 1) 114 [.ref 0, .int 0] st (some (.ref 25)) st := by
  refine mI_X9_imageAt (d := d + 0) (Nat.le_of_ble_eq_true rfl) (fun Q hq => ?_)
  show mW (mMC mT (d + 0)) (0, fun _ => 0) (mAtL P_X9_imageAt) (some (.object "SpadeRings$Now")) Q 0 [some (.ref 0), some (.int 0)] [] st
  refine w_blk 1 (pc' := 1) (ls' := [some (.ref 0), some (.int 0)]) (sk' := [.int 0]) (st' := st) (fun _ h => h) ?_
  refine w_if_lt rfl (fun hno => absurd hno (show ¬ (0 : Int32) < 0 by decide)) (fun _ => ?_)
  refine w_blk 4 (pc' := 10) (ls' := [some (.ref 0), some (.int 0)]) (sk' := [.int (Int32.ofNat 2), .int 0]) (st' := st) (fun _ h => h) ?_
  refine w_cmp_ge rfl (fun hno => absurd hno (show ¬ (Int32.ofNat 2) ≤ (0 : Int32) by decide)) (fun _ => ?_)
  refine w_blk 3 (pc' := 18) (ls' := [some (.ref 0), some (.int 0)]) (sk' := [.int 0, .ref 24]) (st' := st) (fun _ h => h) ?_
  refine w_aald (q := 0) rfl rfl (vp_in_nI (n := 0) (N := 2) (by decide) (by decide)) rfl ?_
  refine w_blk 1 (pc' := 23) (ls' := [some (.ref 0), some (.int 0)]) (sk' := [.ref 25]) (st' := st) (fun _ h => h) ?_
  exact w_aret rfl rfl (by decide) hq
set_option maxRecDepth 20000 in
/-- imageAt(1) -/
theorem c_imageAt_1 (d : Nat)  (st : mSt) : mMC mT (d + 1) 114 [.ref 0, .int 1] st (some (.ref 28)) st := by
  refine mI_X9_imageAt (d := d + 0) (Nat.le_of_ble_eq_true rfl) (fun Q hq => ?_)
  show mW (mMC mT (d + 0)) (0, fun _ => 0) (mAtL P_X9_imageAt) (some (.object "SpadeRings$Now")) Q 0 [some (.ref 0), some (.int 1)] [] st
  refine w_blk 1 (pc' := 1) (ls' := [some (.ref 0), some (.int 1)]) (sk' := [.int 1]) (st' := st) (fun _ h => h) ?_
  refine w_if_lt rfl (fun hno => absurd hno (show ¬ (1 : Int32) < 0 by decide)) (fun _ => ?_)
  refine w_blk 4 (pc' := 10) (ls' := [some (.ref 0), some (.int 1)]) (sk' := [.int (Int32.ofNat 2), .int 1]) (st' := st) (fun _ h => h) ?_
  refine w_cmp_ge rfl (fun hno => absurd hno (show ¬ (Int32.ofNat 2) ≤ (1 : Int32) by decide)) (fun _ => ?_)
  refine w_blk 3 (pc' := 18) (ls' := [some (.ref 0), some (.int 1)]) (sk' := [.int 1, .ref 24]) (st' := st) (fun _ h => h) ?_
  refine w_aald (q := 0) rfl rfl (vp_in_nI (n := 1) (N := 2) (by decide) (by decide)) rfl ?_
  refine w_blk 1 (pc' := 23) (ls' := [some (.ref 0), some (.int 1)]) (sk' := [.ref 28]) (st' := st) (fun _ h => h) ?_
  exact w_aret rfl rfl (by decide) hq
set_option maxRecDepth 20000 in
/-- imageAt(x), no such image -/
theorem c_imageAt_no (d : Nat) (x : Int32) (st : mSt) (hx : ¬ (0 ≤ x ∧ x < 2)) : mMC mT (d + 1) 114 [.ref 0, .int x] st (some (.null)) st := by
  refine mI_X9_imageAt (d := d + 0) (Nat.le_of_ble_eq_true rfl) (fun Q hq => ?_)
  show mW (mMC mT (d + 0)) (0, fun _ => 0) (mAtL P_X9_imageAt) (some (.object "SpadeRings$Now")) Q 0 [some (.ref 0), some (.int x)] [] st
  refine w_blk 1 (pc' := 1) (ls' := [some (.ref 0), some (.int x)]) (sk' := [.int x]) (st' := st) (fun _ h => h) ?_
  refine w_if_lt rfl (fun h1 => ?_) (fun h1 => ?_)
  · refine w_blk 1 (pc' := 23) (ls' := [some (.ref 0), some (.int x)]) (sk' := [.null]) (st' := st) (fun _ h => h) ?_
    exact w_aretN rfl rfl hq
  · refine w_blk 4 (pc' := 10) (ls' := [some (.ref 0), some (.int x)]) (sk' := [.int (Int32.ofNat 2), .int x]) (st' := st) (fun _ h => h) ?_
    refine w_cmp_ge rfl (fun _ => ?_) (fun hno => absurd (by simp only [Int32.le_iff_toInt_le, Int32.lt_iff_toInt_lt] at *; have e : (Int32.ofNat 2).toInt = 2 := rfl; have e0 : (0 : Int32).toInt = 0 := rfl; have e2 : (2 : Int32).toInt = 2 := rfl; omega) hno)
    refine w_blk 1 (pc' := 23) (ls' := [some (.ref 0), some (.int x)]) (sk' := [.null]) (st' := st) (fun _ h => h) ?_
    exact w_aretN rfl rfl hq
set_option maxRecDepth 20000 in
/-- keep, no such image -/
theorem x_keep_no (d : Nat) (x : Int32) (st : mSt) (hx : ¬ (0 ≤ x ∧ x < 2)) : mMC mT (d + 3) 110 [.ref 0, .int x] st (some (.int (-1))) st := by
  refine mI_X9_keep (d := d + 2) (Nat.le_of_ble_eq_true rfl) (fun Q hq => ?_)
  show mW (mMC mT (d + 2)) (0, fun _ => 0) (mAtL P_X9_keep) (some .int) Q 0 [some (.ref 0), some (.int x), none] [] st
  refine w_blk 2 (pc' := 2) (ls' := [some (.ref 0), some (.int x), none]) (sk' := [.int x, .ref 0]) (st' := st) (fun _ h => h) ?_
  refine w_callV (As := [.ref 0, .int x]) (rest := []) rfl rfl rfl (Nat.le_of_ble_eq_true rfl) (Nat.le_of_ble_eq_true rfl) (by first | exact Or.inl ⟨rfl, rfl⟩ | exact Or.inr ⟨rfl, rfl⟩) (c_imageAt_no (d + 1) x st hx) ?_
  refine w_blk 4 (pc' := 11) (ls' := [some (.ref 0), some (.int x), some (.null)]) (sk' := [.int (-1)]) (st' := st) (fun _ h => h) ?_
  exact w_iret rfl rfl rfl hq
set_option maxRecDepth 20000 in
/-- back, no such image -/
theorem x_back_no (d : Nat) (x : Int32) (st : mSt) (hx : ¬ (0 ≤ x ∧ x < 2)) : mMC mT (d + 3) 111 [.ref 0, .int x] st (some (.int (-1))) st := by
  refine mI_X9_back (d := d + 2) (Nat.le_of_ble_eq_true rfl) (fun Q hq => ?_)
  show mW (mMC mT (d + 2)) (0, fun _ => 0) (mAtL P_X9_back) (some .int) Q 0 [some (.ref 0), some (.int x), none] [] st
  refine w_blk 2 (pc' := 2) (ls' := [some (.ref 0), some (.int x), none]) (sk' := [.int x, .ref 0]) (st' := st) (fun _ h => h) ?_
  refine w_callV (As := [.ref 0, .int x]) (rest := []) rfl rfl rfl (Nat.le_of_ble_eq_true rfl) (Nat.le_of_ble_eq_true rfl) (by first | exact Or.inl ⟨rfl, rfl⟩ | exact Or.inr ⟨rfl, rfl⟩) (c_imageAt_no (d + 1) x st hx) ?_
  refine w_blk 4 (pc' := 11) (ls' := [some (.ref 0), some (.int x), some (.null)]) (sk' := [.int (-1)]) (st' := st) (fun _ h => h) ?_
  exact w_iret rfl rfl rfl hq
set_option maxRecDepth 20000 in
/-- keep(0) -/
theorem x_keep_0 (d : Nat) (v : Nat → Int32) (u : Nat → Nat) (yd : Nat) (kb : Nat) (st : mSt) (hN : N21 st v u yd) (hkb : st.1 0 5 = nI kb) : ∃ (s : mSt), mMC mT (d + 3) 110 [.ref 0, .int 0] st (some (.int (v 0))) s ∧ N25 s v u yd ∧ s.1 0 5 = nI (kb ||| 1) ∧ Fr [0, 25, 26, 27] st s ∧ Fk 0 [5] st s ∧ s.2 0 = st.2 0 := by
  suffices H : ∀ Q : Option Value → mSt → Prop, (∀ (s : mSt), (N25 s v u yd ∧ s.1 0 5 = nI (kb ||| 1) ∧ Fr [0, 25, 26, 27] st s ∧ Fk 0 [5] st s ∧ s.2 0 = st.2 0) → Q (some (.int (v 0))) s) → mW (mMC mT (d + 2)) (0, fun _ => 0) (mAtL P_X9_keep) (some .int) Q 0 [some (.ref 0), some (.int 0), none] [] st by
    obtain ⟨_, _, ⟨s, rfl, rfl, hp⟩, hw⟩ := mW_ex (H (fun vv tt => ∃ (s : mSt),  vv = some (.int (v 0)) ∧ s = tt ∧ N25 s v u yd ∧ s.1 0 5 = nI (kb ||| 1) ∧ Fr [0, 25, 26, 27] st s ∧ Fk 0 [5] st s ∧ s.2 0 = st.2 0) (fun s hp => ⟨s, rfl, rfl, hp⟩))
    exact ⟨s, mI_X9_keep (d := d + 2) (Nat.le_of_ble_eq_true rfl) hw, hp⟩
  intro Q hq
  refine w_blk 2 (pc' := 2) (ls' := [some (.ref 0), some (.int 0), none]) (sk' := [.int 0, .ref 0]) (st' := st) (fun _ h => h) ?_
  refine w_callV (As := [.ref 0, .int 0]) (rest := []) rfl rfl rfl (Nat.le_of_ble_eq_true rfl) (Nat.le_of_ble_eq_true rfl) (by first | exact Or.inl ⟨rfl, rfl⟩ | exact Or.inr ⟨rfl, rfl⟩) (c_imageAt_0 (d + 1) st) ?_
  refine w_blk 6 (pc' := 17) (ls' := [some (.ref 0), some (.int 0), some (.ref 25)]) (sk' := [.ref 21, .ref 25]) (st' := st) (fun _ h => h) ?_
  obtain ⟨s1, hc_2, hN_3, hf_4⟩ := c_copy_21_25 (d + 0) v u yd st hN
  refine w_callV (As := [.ref 25, .ref 21]) (rest := []) rfl rfl rfl (Nat.le_of_ble_eq_true rfl) (Nat.le_of_ble_eq_true rfl) (by first | exact Or.inl ⟨rfl, rfl⟩ | exact Or.inr ⟨rfl, rfl⟩) hc_2 ?_
  refine w_blk 3 (pc' := 25) (ls' := [some (.ref 0), some (.int 0), some (.ref 25)]) (sk' := [.int (s1.1 0 5), .ref 0]) (st' := s1) (fun _ h => h) ?_
  rw [(show s1.1 0 5 = nI kb from by rw [hf_4.1 0 (by decide)]; exact hkb)]
  refine w_blk 3 (pc' := 28) (ls' := [some (.ref 0), some (.int 0), some (.ref 25)]) (sk' := [.int ((1 : Int32) <<< ((0 : Int32) &&& 31)), .int (nI kb), .ref 0]) (st' := s1) (fun _ h => h) ?_
  rw [show ((1 : Int32) <<< ((0 : Int32) &&& 31)) = nI 1 from by decide]
  refine w_blk 1 (pc' := 29) (ls' := [some (.ref 0), some (.int 0), some (.ref 25)]) (sk' := [.int ((nI kb) ||| (nI 1)), .ref 0]) (st' := s1) (fun _ h => h) ?_
  rw [show ((nI kb) ||| (nI 1)) = nI (kb ||| 1) from nI_or kb 1]
  refine w_blk 4 (pc' := 39) (ls' := [some (.ref 0), some (.int 0), some (.ref 25)]) (sk' := [.int (s1.1 21 0)]) (st' := ((mU s1.1 0 5 (nI (kb ||| 1))), s1.2)) (fun _ h => h) ?_
  rw [(show s1.1 21 0 = v 0 from by rw [hf_4.1 21 (by decide)]; exact hN.1)]
  exact w_iret rfl rfl rfl (hq _ ⟨hN_3, mU_at (f := s1.1) (p := 0) (k := 5), Fr.trans (Fr.mono hf_4 (by decide)) (Fr.mU (by decide)), Fk.trans (Fk.fr hf_4 (by decide)) (Fk.wr (by decide)), hf_4.2 0 (by decide)⟩)
set_option maxRecDepth 20000 in
/-- back(0) -/
theorem x_back_0 (d : Nat) (v : Nat → Int32) (u : Nat → Nat) (yd : Nat) (kb : Nat) (st : mSt) (hN : N25 st v u yd) (hkb : st.1 0 5 = nI kb) (hk4 : kb < 4) (hbit : kb.testBit 0 = true) : ∃ (s : mSt), mMC mT (d + 3) 111 [.ref 0, .int 0] st (some (.int (v 0))) s ∧ N21 s v u yd ∧ Fr [21, 22, 23] st s := by
  suffices H : ∀ Q : Option Value → mSt → Prop, (∀ (s : mSt), (N21 s v u yd ∧ Fr [21, 22, 23] st s) → Q (some (.int (v 0))) s) → mW (mMC mT (d + 2)) (0, fun _ => 0) (mAtL P_X9_back) (some .int) Q 0 [some (.ref 0), some (.int 0), none] [] st by
    obtain ⟨_, _, ⟨s, rfl, rfl, hp⟩, hw⟩ := mW_ex (H (fun vv tt => ∃ (s : mSt),  vv = some (.int (v 0)) ∧ s = tt ∧ N21 s v u yd ∧ Fr [21, 22, 23] st s) (fun s hp => ⟨s, rfl, rfl, hp⟩))
    exact ⟨s, mI_X9_back (d := d + 2) (Nat.le_of_ble_eq_true rfl) hw, hp⟩
  intro Q hq
  refine w_blk 2 (pc' := 2) (ls' := [some (.ref 0), some (.int 0), none]) (sk' := [.int 0, .ref 0]) (st' := st) (fun _ h => h) ?_
  refine w_callV (As := [.ref 0, .int 0]) (rest := []) rfl rfl rfl (Nat.le_of_ble_eq_true rfl) (Nat.le_of_ble_eq_true rfl) (by first | exact Or.inl ⟨rfl, rfl⟩ | exact Or.inr ⟨rfl, rfl⟩) (c_imageAt_0 (d + 1) st) ?_
  refine w_blk 5 (pc' := 16) (ls' := [some (.ref 0), some (.int 0), some (.ref 25)]) (sk' := [.int (st.1 0 5)]) (st' := st) (fun _ h => h) ?_
  rw [hkb]
  refine w_blk 1 (pc' := 17) (ls' := [some (.ref 0), some (.int 0), some (.ref 25)]) (sk' := [.int 0, .int (nI kb)]) (st' := st) (fun _ h => h) ?_
  refine w_callS (As := [.int (nI kb), .int 0]) (rest := []) rfl rfl rfl (Nat.le_of_ble_eq_true rfl) (Nat.le_of_ble_eq_true rfl) (c_hasBit (d + 1) (nI kb) 0 st) ?_
  rw [show (pI (bitP (nI kb) 0)) = pI (Nat.testBit kb 0 = true) from pI_cong (bitP_nI (n := kb) (k := 0) (by omega) (by omega))]
  refine w_if_ne rfl (fun _ => ?_) (fun hno => absurd (pI_ne.mpr hbit) hno)
  refine w_blk 3 (pc' := 31) (ls' := [some (.ref 0), some (.int 0), some (.ref 25)]) (sk' := [.ref 25, .ref 21]) (st' := st) (fun _ h => h) ?_
  obtain ⟨s1, hc_2, hN_3, hf_4⟩ := c_copy_25_21 (d + 0) v u yd st hN
  refine w_callV (As := [.ref 21, .ref 25]) (rest := []) rfl rfl rfl (Nat.le_of_ble_eq_true rfl) (Nat.le_of_ble_eq_true rfl) (by first | exact Or.inl ⟨rfl, rfl⟩ | exact Or.inr ⟨rfl, rfl⟩) hc_2 ?_
  refine w_blk 3 (pc' := 41) (ls' := [some (.ref 0), some (.int 0), some (.ref 25)]) (sk' := [.int (s1.1 21 0)]) (st' := s1) (fun _ h => h) ?_
  rw [hN_3.1]
  exact w_iret rfl rfl rfl (hq _ ⟨hN_3, hf_4⟩)
set_option maxRecDepth 20000 in
/-- back(0), not kept -/
theorem x_back_none_0 (d : Nat) (kb : Nat) (st : mSt) (hkb : st.1 0 5 = nI kb) (hk4 : kb < 4) (hbit : ¬ kb.testBit 0 = true) : mMC mT (d + 3) 111 [.ref 0, .int 0] st (some (.int (-2))) st := by
  refine mI_X9_back (d := d + 2) (Nat.le_of_ble_eq_true rfl) (fun Q hq => ?_)
  show mW (mMC mT (d + 2)) (0, fun _ => 0) (mAtL P_X9_back) (some .int) Q 0 [some (.ref 0), some (.int 0), none] [] st
  refine w_blk 2 (pc' := 2) (ls' := [some (.ref 0), some (.int 0), none]) (sk' := [.int 0, .ref 0]) (st' := st) (fun _ h => h) ?_
  refine w_callV (As := [.ref 0, .int 0]) (rest := []) rfl rfl rfl (Nat.le_of_ble_eq_true rfl) (Nat.le_of_ble_eq_true rfl) (by first | exact Or.inl ⟨rfl, rfl⟩ | exact Or.inr ⟨rfl, rfl⟩) (c_imageAt_0 (d + 1) st) ?_
  refine w_blk 5 (pc' := 16) (ls' := [some (.ref 0), some (.int 0), some (.ref 25)]) (sk' := [.int (st.1 0 5)]) (st' := st) (fun _ h => h) ?_
  rw [hkb]
  refine w_blk 1 (pc' := 17) (ls' := [some (.ref 0), some (.int 0), some (.ref 25)]) (sk' := [.int 0, .int (nI kb)]) (st' := st) (fun _ h => h) ?_
  refine w_callS (As := [.int (nI kb), .int 0]) (rest := []) rfl rfl rfl (Nat.le_of_ble_eq_true rfl) (Nat.le_of_ble_eq_true rfl) (c_hasBit (d + 1) (nI kb) 0 st) ?_
  rw [show (pI (bitP (nI kb) 0)) = pI (Nat.testBit kb 0 = true) from pI_cong (bitP_nI (n := kb) (k := 0) (by omega) (by omega))]
  refine w_if_ne rfl (fun hno => absurd hno (not_not_intro (pI_eq0.mpr hbit))) (fun _ => ?_)
  refine w_blk 1 (pc' := 25) (ls' := [some (.ref 0), some (.int 0), some (.ref 25)]) (sk' := [.int (-2)]) (st' := st) (fun _ h => h) ?_
  exact w_iret rfl rfl rfl hq
set_option maxRecDepth 20000 in
/-- keep(1) -/
theorem x_keep_1 (d : Nat) (v : Nat → Int32) (u : Nat → Nat) (yd : Nat) (kb : Nat) (st : mSt) (hN : N21 st v u yd) (hkb : st.1 0 5 = nI kb) : ∃ (s : mSt), mMC mT (d + 3) 110 [.ref 0, .int 1] st (some (.int (v 0))) s ∧ N28 s v u yd ∧ s.1 0 5 = nI (kb ||| 2) ∧ Fr [0, 28, 29, 30] st s ∧ Fk 0 [5] st s ∧ s.2 0 = st.2 0 := by
  suffices H : ∀ Q : Option Value → mSt → Prop, (∀ (s : mSt), (N28 s v u yd ∧ s.1 0 5 = nI (kb ||| 2) ∧ Fr [0, 28, 29, 30] st s ∧ Fk 0 [5] st s ∧ s.2 0 = st.2 0) → Q (some (.int (v 0))) s) → mW (mMC mT (d + 2)) (0, fun _ => 0) (mAtL P_X9_keep) (some .int) Q 0 [some (.ref 0), some (.int 1), none] [] st by
    obtain ⟨_, _, ⟨s, rfl, rfl, hp⟩, hw⟩ := mW_ex (H (fun vv tt => ∃ (s : mSt),  vv = some (.int (v 0)) ∧ s = tt ∧ N28 s v u yd ∧ s.1 0 5 = nI (kb ||| 2) ∧ Fr [0, 28, 29, 30] st s ∧ Fk 0 [5] st s ∧ s.2 0 = st.2 0) (fun s hp => ⟨s, rfl, rfl, hp⟩))
    exact ⟨s, mI_X9_keep (d := d + 2) (Nat.le_of_ble_eq_true rfl) hw, hp⟩
  intro Q hq
  refine w_blk 2 (pc' := 2) (ls' := [some (.ref 0), some (.int 1), none]) (sk' := [.int 1, .ref 0]) (st' := st) (fun _ h => h) ?_
  refine w_callV (As := [.ref 0, .int 1]) (rest := []) rfl rfl rfl (Nat.le_of_ble_eq_true rfl) (Nat.le_of_ble_eq_true rfl) (by first | exact Or.inl ⟨rfl, rfl⟩ | exact Or.inr ⟨rfl, rfl⟩) (c_imageAt_1 (d + 1) st) ?_
  refine w_blk 6 (pc' := 17) (ls' := [some (.ref 0), some (.int 1), some (.ref 28)]) (sk' := [.ref 21, .ref 28]) (st' := st) (fun _ h => h) ?_
  obtain ⟨s1, hc_2, hN_3, hf_4⟩ := c_copy_21_28 (d + 0) v u yd st hN
  refine w_callV (As := [.ref 28, .ref 21]) (rest := []) rfl rfl rfl (Nat.le_of_ble_eq_true rfl) (Nat.le_of_ble_eq_true rfl) (by first | exact Or.inl ⟨rfl, rfl⟩ | exact Or.inr ⟨rfl, rfl⟩) hc_2 ?_
  refine w_blk 3 (pc' := 25) (ls' := [some (.ref 0), some (.int 1), some (.ref 28)]) (sk' := [.int (s1.1 0 5), .ref 0]) (st' := s1) (fun _ h => h) ?_
  rw [(show s1.1 0 5 = nI kb from by rw [hf_4.1 0 (by decide)]; exact hkb)]
  refine w_blk 3 (pc' := 28) (ls' := [some (.ref 0), some (.int 1), some (.ref 28)]) (sk' := [.int ((1 : Int32) <<< ((1 : Int32) &&& 31)), .int (nI kb), .ref 0]) (st' := s1) (fun _ h => h) ?_
  rw [show ((1 : Int32) <<< ((1 : Int32) &&& 31)) = nI 2 from by decide]
  refine w_blk 1 (pc' := 29) (ls' := [some (.ref 0), some (.int 1), some (.ref 28)]) (sk' := [.int ((nI kb) ||| (nI 2)), .ref 0]) (st' := s1) (fun _ h => h) ?_
  rw [show ((nI kb) ||| (nI 2)) = nI (kb ||| 2) from nI_or kb 2]
  refine w_blk 4 (pc' := 39) (ls' := [some (.ref 0), some (.int 1), some (.ref 28)]) (sk' := [.int (s1.1 21 0)]) (st' := ((mU s1.1 0 5 (nI (kb ||| 2))), s1.2)) (fun _ h => h) ?_
  rw [(show s1.1 21 0 = v 0 from by rw [hf_4.1 21 (by decide)]; exact hN.1)]
  exact w_iret rfl rfl rfl (hq _ ⟨hN_3, mU_at (f := s1.1) (p := 0) (k := 5), Fr.trans (Fr.mono hf_4 (by decide)) (Fr.mU (by decide)), Fk.trans (Fk.fr hf_4 (by decide)) (Fk.wr (by decide)), hf_4.2 0 (by decide)⟩)
set_option maxRecDepth 20000 in
/-- back(1) -/
theorem x_back_1 (d : Nat) (v : Nat → Int32) (u : Nat → Nat) (yd : Nat) (kb : Nat) (st : mSt) (hN : N28 st v u yd) (hkb : st.1 0 5 = nI kb) (hk4 : kb < 4) (hbit : kb.testBit 1 = true) : ∃ (s : mSt), mMC mT (d + 3) 111 [.ref 0, .int 1] st (some (.int (v 0))) s ∧ N21 s v u yd ∧ Fr [21, 22, 23] st s := by
  suffices H : ∀ Q : Option Value → mSt → Prop, (∀ (s : mSt), (N21 s v u yd ∧ Fr [21, 22, 23] st s) → Q (some (.int (v 0))) s) → mW (mMC mT (d + 2)) (0, fun _ => 0) (mAtL P_X9_back) (some .int) Q 0 [some (.ref 0), some (.int 1), none] [] st by
    obtain ⟨_, _, ⟨s, rfl, rfl, hp⟩, hw⟩ := mW_ex (H (fun vv tt => ∃ (s : mSt),  vv = some (.int (v 0)) ∧ s = tt ∧ N21 s v u yd ∧ Fr [21, 22, 23] st s) (fun s hp => ⟨s, rfl, rfl, hp⟩))
    exact ⟨s, mI_X9_back (d := d + 2) (Nat.le_of_ble_eq_true rfl) hw, hp⟩
  intro Q hq
  refine w_blk 2 (pc' := 2) (ls' := [some (.ref 0), some (.int 1), none]) (sk' := [.int 1, .ref 0]) (st' := st) (fun _ h => h) ?_
  refine w_callV (As := [.ref 0, .int 1]) (rest := []) rfl rfl rfl (Nat.le_of_ble_eq_true rfl) (Nat.le_of_ble_eq_true rfl) (by first | exact Or.inl ⟨rfl, rfl⟩ | exact Or.inr ⟨rfl, rfl⟩) (c_imageAt_1 (d + 1) st) ?_
  refine w_blk 5 (pc' := 16) (ls' := [some (.ref 0), some (.int 1), some (.ref 28)]) (sk' := [.int (st.1 0 5)]) (st' := st) (fun _ h => h) ?_
  rw [hkb]
  refine w_blk 1 (pc' := 17) (ls' := [some (.ref 0), some (.int 1), some (.ref 28)]) (sk' := [.int 1, .int (nI kb)]) (st' := st) (fun _ h => h) ?_
  refine w_callS (As := [.int (nI kb), .int 1]) (rest := []) rfl rfl rfl (Nat.le_of_ble_eq_true rfl) (Nat.le_of_ble_eq_true rfl) (c_hasBit (d + 1) (nI kb) 1 st) ?_
  rw [show (pI (bitP (nI kb) 1)) = pI (Nat.testBit kb 1 = true) from pI_cong (bitP_nI (n := kb) (k := 1) (by omega) (by omega))]
  refine w_if_ne rfl (fun _ => ?_) (fun hno => absurd (pI_ne.mpr hbit) hno)
  refine w_blk 3 (pc' := 31) (ls' := [some (.ref 0), some (.int 1), some (.ref 28)]) (sk' := [.ref 28, .ref 21]) (st' := st) (fun _ h => h) ?_
  obtain ⟨s1, hc_2, hN_3, hf_4⟩ := c_copy_28_21 (d + 0) v u yd st hN
  refine w_callV (As := [.ref 21, .ref 28]) (rest := []) rfl rfl rfl (Nat.le_of_ble_eq_true rfl) (Nat.le_of_ble_eq_true rfl) (by first | exact Or.inl ⟨rfl, rfl⟩ | exact Or.inr ⟨rfl, rfl⟩) hc_2 ?_
  refine w_blk 3 (pc' := 41) (ls' := [some (.ref 0), some (.int 1), some (.ref 28)]) (sk' := [.int (s1.1 21 0)]) (st' := s1) (fun _ h => h) ?_
  rw [hN_3.1]
  exact w_iret rfl rfl rfl (hq _ ⟨hN_3, hf_4⟩)
set_option maxRecDepth 20000 in
/-- back(1), not kept -/
theorem x_back_none_1 (d : Nat) (kb : Nat) (st : mSt) (hkb : st.1 0 5 = nI kb) (hk4 : kb < 4) (hbit : ¬ kb.testBit 1 = true) : mMC mT (d + 3) 111 [.ref 0, .int 1] st (some (.int (-2))) st := by
  refine mI_X9_back (d := d + 2) (Nat.le_of_ble_eq_true rfl) (fun Q hq => ?_)
  show mW (mMC mT (d + 2)) (0, fun _ => 0) (mAtL P_X9_back) (some .int) Q 0 [some (.ref 0), some (.int 1), none] [] st
  refine w_blk 2 (pc' := 2) (ls' := [some (.ref 0), some (.int 1), none]) (sk' := [.int 1, .ref 0]) (st' := st) (fun _ h => h) ?_
  refine w_callV (As := [.ref 0, .int 1]) (rest := []) rfl rfl rfl (Nat.le_of_ble_eq_true rfl) (Nat.le_of_ble_eq_true rfl) (by first | exact Or.inl ⟨rfl, rfl⟩ | exact Or.inr ⟨rfl, rfl⟩) (c_imageAt_1 (d + 1) st) ?_
  refine w_blk 5 (pc' := 16) (ls' := [some (.ref 0), some (.int 1), some (.ref 28)]) (sk' := [.int (st.1 0 5)]) (st' := st) (fun _ h => h) ?_
  rw [hkb]
  refine w_blk 1 (pc' := 17) (ls' := [some (.ref 0), some (.int 1), some (.ref 28)]) (sk' := [.int 1, .int (nI kb)]) (st' := st) (fun _ h => h) ?_
  refine w_callS (As := [.int (nI kb), .int 1]) (rest := []) rfl rfl rfl (Nat.le_of_ble_eq_true rfl) (Nat.le_of_ble_eq_true rfl) (c_hasBit (d + 1) (nI kb) 1 st) ?_
  rw [show (pI (bitP (nI kb) 1)) = pI (Nat.testBit kb 1 = true) from pI_cong (bitP_nI (n := kb) (k := 1) (by omega) (by omega))]
  refine w_if_ne rfl (fun hno => absurd hno (not_not_intro (pI_eq0.mpr hbit))) (fun _ => ?_)
  refine w_blk 1 (pc' := 25) (ls' := [some (.ref 0), some (.int 1), some (.ref 28)]) (sk' := [.int (-2)]) (st' := st) (fun _ h => h) ?_
  exact w_iret rfl rfl rfl hq
def pop (b : Nat) : Nat → Nat
  | 0 => 0
  | k + 1 => pop b k + (if b.testBit k = true then 1 else 0)
def tU (st : mSt) (p k : Nat) (t : Int64) : mSt := (st.1, mUL st.2 p k (st.2 p k + t))
theorem mUL_at {f : Nat → Nat → Int64} {p k : Nat} {x : Int64} : mUL f p k x p k = x := by
  unfold mUL
  rw [if_pos rfl]
  exact if_pos rfl
theorem tU_tU {st : mSt} {p k : Nat} {a b : Int64} : tU (tU st p k a) p k b = tU st p k (a + b) := by
  unfold tU
  refine Prod.ext rfl ?_
  funext q j
  show mUL (mUL st.2 p k (st.2 p k + a)) p k (mUL st.2 p k (st.2 p k + a) p k + b) q j = mUL st.2 p k (st.2 p k + (a + b)) q j
  rw [mUL_at, Int64.add_assoc]
  unfold mUL
  by_cases hq : q = p
  · rw [if_pos hq, if_pos hq]
    by_cases hj : j = k
    · subst hj
      rw [pk_uLs, pk_uLs]
    · rw [pk_uLn hj, pk_uLn hj, if_pos rfl, pk_uLn hj]
  · rw [if_neg hq, if_neg hq, if_neg hq]
theorem tU_fr {st : mSt} {p k : Nat} {t : Int64} : (tU st p k t).1 = st.1 ∧ (∀ q, q ≠ p → (tU st p k t).2 q = st.2 q) ∧ (tU st p k t).2 p k = st.2 p k + t := ⟨rfl, fun q h => mUL_ne (fun e => h e), mUL_at⟩
def bcF (x : Int32) : Int32 := ((((((((x - (((Int32.toUInt32 x >>> (Int32.toUInt32 1 &&& Int32.toUInt32 31)).toInt32) &&& 1431655765)) &&& 858993459) + (((Int32.toUInt32 (x - (((Int32.toUInt32 x >>> (Int32.toUInt32 1 &&& Int32.toUInt32 31)).toInt32) &&& 1431655765)) >>> (Int32.toUInt32 2 &&& Int32.toUInt32 31)).toInt32) &&& 858993459)) + ((Int32.toUInt32 (((x - (((Int32.toUInt32 x >>> (Int32.toUInt32 1 &&& Int32.toUInt32 31)).toInt32) &&& 1431655765)) &&& 858993459) + (((Int32.toUInt32 (x - (((Int32.toUInt32 x >>> (Int32.toUInt32 1 &&& Int32.toUInt32 31)).toInt32) &&& 1431655765)) >>> (Int32.toUInt32 2 &&& Int32.toUInt32 31)).toInt32) &&& 858993459)) >>> (Int32.toUInt32 4 &&& Int32.toUInt32 31)).toInt32)) &&& 252645135) + ((Int32.toUInt32 (((((x - (((Int32.toUInt32 x >>> (Int32.toUInt32 1 &&& Int32.toUInt32 31)).toInt32) &&& 1431655765)) &&& 858993459) + (((Int32.toUInt32 (x - (((Int32.toUInt32 x >>> (Int32.toUInt32 1 &&& Int32.toUInt32 31)).toInt32) &&& 1431655765)) >>> (Int32.toUInt32 2 &&& Int32.toUInt32 31)).toInt32) &&& 858993459)) + ((Int32.toUInt32 (((x - (((Int32.toUInt32 x >>> (Int32.toUInt32 1 &&& Int32.toUInt32 31)).toInt32) &&& 1431655765)) &&& 858993459) + (((Int32.toUInt32 (x - (((Int32.toUInt32 x >>> (Int32.toUInt32 1 &&& Int32.toUInt32 31)).toInt32) &&& 1431655765)) >>> (Int32.toUInt32 2 &&& Int32.toUInt32 31)).toInt32) &&& 858993459)) >>> (Int32.toUInt32 4 &&& Int32.toUInt32 31)).toInt32)) &&& 252645135) >>> (Int32.toUInt32 8 &&& Int32.toUInt32 31)).toInt32)) + ((Int32.toUInt32 ((((((x - (((Int32.toUInt32 x >>> (Int32.toUInt32 1 &&& Int32.toUInt32 31)).toInt32) &&& 1431655765)) &&& 858993459) + (((Int32.toUInt32 (x - (((Int32.toUInt32 x >>> (Int32.toUInt32 1 &&& Int32.toUInt32 31)).toInt32) &&& 1431655765)) >>> (Int32.toUInt32 2 &&& Int32.toUInt32 31)).toInt32) &&& 858993459)) + ((Int32.toUInt32 (((x - (((Int32.toUInt32 x >>> (Int32.toUInt32 1 &&& Int32.toUInt32 31)).toInt32) &&& 1431655765)) &&& 858993459) + (((Int32.toUInt32 (x - (((Int32.toUInt32 x >>> (Int32.toUInt32 1 &&& Int32.toUInt32 31)).toInt32) &&& 1431655765)) >>> (Int32.toUInt32 2 &&& Int32.toUInt32 31)).toInt32) &&& 858993459)) >>> (Int32.toUInt32 4 &&& Int32.toUInt32 31)).toInt32)) &&& 252645135) + ((Int32.toUInt32 (((((x - (((Int32.toUInt32 x >>> (Int32.toUInt32 1 &&& Int32.toUInt32 31)).toInt32) &&& 1431655765)) &&& 858993459) + (((Int32.toUInt32 (x - (((Int32.toUInt32 x >>> (Int32.toUInt32 1 &&& Int32.toUInt32 31)).toInt32) &&& 1431655765)) >>> (Int32.toUInt32 2 &&& Int32.toUInt32 31)).toInt32) &&& 858993459)) + ((Int32.toUInt32 (((x - (((Int32.toUInt32 x >>> (Int32.toUInt32 1 &&& Int32.toUInt32 31)).toInt32) &&& 1431655765)) &&& 858993459) + (((Int32.toUInt32 (x - (((Int32.toUInt32 x >>> (Int32.toUInt32 1 &&& Int32.toUInt32 31)).toInt32) &&& 1431655765)) >>> (Int32.toUInt32 2 &&& Int32.toUInt32 31)).toInt32) &&& 858993459)) >>> (Int32.toUInt32 4 &&& Int32.toUInt32 31)).toInt32)) &&& 252645135) >>> (Int32.toUInt32 8 &&& Int32.toUInt32 31)).toInt32)) >>> (Int32.toUInt32 16 &&& Int32.toUInt32 31)).toInt32)) &&& 63)
set_option maxRecDepth 20000 in
/-- Integer.bitCount -/
theorem c_bitCount (d : Nat) (x : Int32) (st : mSt) : mMC mT (d + 1) 0 [.int x] st (some (.int (bcF x))) st := by
  refine mI_J6_bitCount_0f7a4 (d := d + 0) (Nat.le_of_ble_eq_true rfl) (fun Q hq => ?_)
  show mW (mMC mT (d + 0)) (0, fun _ => 0) (mAtL P_J6_bitCount_0f7a4) (some .int) Q 0 [some (.int x)] [] st
  refine w_blk 41 (pc' := 52) (ls' := [some (.int (((((((x - (((Int32.toUInt32 x >>> (Int32.toUInt32 1 &&& Int32.toUInt32 31)).toInt32) &&& 1431655765)) &&& 858993459) + (((Int32.toUInt32 (x - (((Int32.toUInt32 x >>> (Int32.toUInt32 1 &&& Int32.toUInt32 31)).toInt32) &&& 1431655765)) >>> (Int32.toUInt32 2 &&& Int32.toUInt32 31)).toInt32) &&& 858993459)) + ((Int32.toUInt32 (((x - (((Int32.toUInt32 x >>> (Int32.toUInt32 1 &&& Int32.toUInt32 31)).toInt32) &&& 1431655765)) &&& 858993459) + (((Int32.toUInt32 (x - (((Int32.toUInt32 x >>> (Int32.toUInt32 1 &&& Int32.toUInt32 31)).toInt32) &&& 1431655765)) >>> (Int32.toUInt32 2 &&& Int32.toUInt32 31)).toInt32) &&& 858993459)) >>> (Int32.toUInt32 4 &&& Int32.toUInt32 31)).toInt32)) &&& 252645135) + ((Int32.toUInt32 (((((x - (((Int32.toUInt32 x >>> (Int32.toUInt32 1 &&& Int32.toUInt32 31)).toInt32) &&& 1431655765)) &&& 858993459) + (((Int32.toUInt32 (x - (((Int32.toUInt32 x >>> (Int32.toUInt32 1 &&& Int32.toUInt32 31)).toInt32) &&& 1431655765)) >>> (Int32.toUInt32 2 &&& Int32.toUInt32 31)).toInt32) &&& 858993459)) + ((Int32.toUInt32 (((x - (((Int32.toUInt32 x >>> (Int32.toUInt32 1 &&& Int32.toUInt32 31)).toInt32) &&& 1431655765)) &&& 858993459) + (((Int32.toUInt32 (x - (((Int32.toUInt32 x >>> (Int32.toUInt32 1 &&& Int32.toUInt32 31)).toInt32) &&& 1431655765)) >>> (Int32.toUInt32 2 &&& Int32.toUInt32 31)).toInt32) &&& 858993459)) >>> (Int32.toUInt32 4 &&& Int32.toUInt32 31)).toInt32)) &&& 252645135) >>> (Int32.toUInt32 8 &&& Int32.toUInt32 31)).toInt32)) + ((Int32.toUInt32 ((((((x - (((Int32.toUInt32 x >>> (Int32.toUInt32 1 &&& Int32.toUInt32 31)).toInt32) &&& 1431655765)) &&& 858993459) + (((Int32.toUInt32 (x - (((Int32.toUInt32 x >>> (Int32.toUInt32 1 &&& Int32.toUInt32 31)).toInt32) &&& 1431655765)) >>> (Int32.toUInt32 2 &&& Int32.toUInt32 31)).toInt32) &&& 858993459)) + ((Int32.toUInt32 (((x - (((Int32.toUInt32 x >>> (Int32.toUInt32 1 &&& Int32.toUInt32 31)).toInt32) &&& 1431655765)) &&& 858993459) + (((Int32.toUInt32 (x - (((Int32.toUInt32 x >>> (Int32.toUInt32 1 &&& Int32.toUInt32 31)).toInt32) &&& 1431655765)) >>> (Int32.toUInt32 2 &&& Int32.toUInt32 31)).toInt32) &&& 858993459)) >>> (Int32.toUInt32 4 &&& Int32.toUInt32 31)).toInt32)) &&& 252645135) + ((Int32.toUInt32 (((((x - (((Int32.toUInt32 x >>> (Int32.toUInt32 1 &&& Int32.toUInt32 31)).toInt32) &&& 1431655765)) &&& 858993459) + (((Int32.toUInt32 (x - (((Int32.toUInt32 x >>> (Int32.toUInt32 1 &&& Int32.toUInt32 31)).toInt32) &&& 1431655765)) >>> (Int32.toUInt32 2 &&& Int32.toUInt32 31)).toInt32) &&& 858993459)) + ((Int32.toUInt32 (((x - (((Int32.toUInt32 x >>> (Int32.toUInt32 1 &&& Int32.toUInt32 31)).toInt32) &&& 1431655765)) &&& 858993459) + (((Int32.toUInt32 (x - (((Int32.toUInt32 x >>> (Int32.toUInt32 1 &&& Int32.toUInt32 31)).toInt32) &&& 1431655765)) >>> (Int32.toUInt32 2 &&& Int32.toUInt32 31)).toInt32) &&& 858993459)) >>> (Int32.toUInt32 4 &&& Int32.toUInt32 31)).toInt32)) &&& 252645135) >>> (Int32.toUInt32 8 &&& Int32.toUInt32 31)).toInt32)) >>> (Int32.toUInt32 16 &&& Int32.toUInt32 31)).toInt32)))]) (sk' := [.int ((((((((x - (((Int32.toUInt32 x >>> (Int32.toUInt32 1 &&& Int32.toUInt32 31)).toInt32) &&& 1431655765)) &&& 858993459) + (((Int32.toUInt32 (x - (((Int32.toUInt32 x >>> (Int32.toUInt32 1 &&& Int32.toUInt32 31)).toInt32) &&& 1431655765)) >>> (Int32.toUInt32 2 &&& Int32.toUInt32 31)).toInt32) &&& 858993459)) + ((Int32.toUInt32 (((x - (((Int32.toUInt32 x >>> (Int32.toUInt32 1 &&& Int32.toUInt32 31)).toInt32) &&& 1431655765)) &&& 858993459) + (((Int32.toUInt32 (x - (((Int32.toUInt32 x >>> (Int32.toUInt32 1 &&& Int32.toUInt32 31)).toInt32) &&& 1431655765)) >>> (Int32.toUInt32 2 &&& Int32.toUInt32 31)).toInt32) &&& 858993459)) >>> (Int32.toUInt32 4 &&& Int32.toUInt32 31)).toInt32)) &&& 252645135) + ((Int32.toUInt32 (((((x - (((Int32.toUInt32 x >>> (Int32.toUInt32 1 &&& Int32.toUInt32 31)).toInt32) &&& 1431655765)) &&& 858993459) + (((Int32.toUInt32 (x - (((Int32.toUInt32 x >>> (Int32.toUInt32 1 &&& Int32.toUInt32 31)).toInt32) &&& 1431655765)) >>> (Int32.toUInt32 2 &&& Int32.toUInt32 31)).toInt32) &&& 858993459)) + ((Int32.toUInt32 (((x - (((Int32.toUInt32 x >>> (Int32.toUInt32 1 &&& Int32.toUInt32 31)).toInt32) &&& 1431655765)) &&& 858993459) + (((Int32.toUInt32 (x - (((Int32.toUInt32 x >>> (Int32.toUInt32 1 &&& Int32.toUInt32 31)).toInt32) &&& 1431655765)) >>> (Int32.toUInt32 2 &&& Int32.toUInt32 31)).toInt32) &&& 858993459)) >>> (Int32.toUInt32 4 &&& Int32.toUInt32 31)).toInt32)) &&& 252645135) >>> (Int32.toUInt32 8 &&& Int32.toUInt32 31)).toInt32)) + ((Int32.toUInt32 ((((((x - (((Int32.toUInt32 x >>> (Int32.toUInt32 1 &&& Int32.toUInt32 31)).toInt32) &&& 1431655765)) &&& 858993459) + (((Int32.toUInt32 (x - (((Int32.toUInt32 x >>> (Int32.toUInt32 1 &&& Int32.toUInt32 31)).toInt32) &&& 1431655765)) >>> (Int32.toUInt32 2 &&& Int32.toUInt32 31)).toInt32) &&& 858993459)) + ((Int32.toUInt32 (((x - (((Int32.toUInt32 x >>> (Int32.toUInt32 1 &&& Int32.toUInt32 31)).toInt32) &&& 1431655765)) &&& 858993459) + (((Int32.toUInt32 (x - (((Int32.toUInt32 x >>> (Int32.toUInt32 1 &&& Int32.toUInt32 31)).toInt32) &&& 1431655765)) >>> (Int32.toUInt32 2 &&& Int32.toUInt32 31)).toInt32) &&& 858993459)) >>> (Int32.toUInt32 4 &&& Int32.toUInt32 31)).toInt32)) &&& 252645135) + ((Int32.toUInt32 (((((x - (((Int32.toUInt32 x >>> (Int32.toUInt32 1 &&& Int32.toUInt32 31)).toInt32) &&& 1431655765)) &&& 858993459) + (((Int32.toUInt32 (x - (((Int32.toUInt32 x >>> (Int32.toUInt32 1 &&& Int32.toUInt32 31)).toInt32) &&& 1431655765)) >>> (Int32.toUInt32 2 &&& Int32.toUInt32 31)).toInt32) &&& 858993459)) + ((Int32.toUInt32 (((x - (((Int32.toUInt32 x >>> (Int32.toUInt32 1 &&& Int32.toUInt32 31)).toInt32) &&& 1431655765)) &&& 858993459) + (((Int32.toUInt32 (x - (((Int32.toUInt32 x >>> (Int32.toUInt32 1 &&& Int32.toUInt32 31)).toInt32) &&& 1431655765)) >>> (Int32.toUInt32 2 &&& Int32.toUInt32 31)).toInt32) &&& 858993459)) >>> (Int32.toUInt32 4 &&& Int32.toUInt32 31)).toInt32)) &&& 252645135) >>> (Int32.toUInt32 8 &&& Int32.toUInt32 31)).toInt32)) >>> (Int32.toUInt32 16 &&& Int32.toUInt32 31)).toInt32)) &&& 63)]) (st' := st) (fun _ h => h) ?_
  exact w_iret rfl rfl rfl hq
theorem bcF_nI : ∀ k, k < 256 → bcF (nI k) = nI (pop k 8) := by decide +kernel
theorem c_bitCountK (d k : Nat) (st : mSt) (hk : k < 256) : mMC mT (d + 1) 0 [.int (nI k)] st (some (.int (nI (pop k 8)))) st := by
  have h := c_bitCount d (nI k) st
  rw [bcF_nI k hk] at h
  exact h
theorem tU_add {st : mSt} {p k : Nat} {a b e : Int64} (h : a + b = e) : tU (tU st p k a) p k b = tU st p k e := by rw [tU_tU, h]
set_option maxRecDepth 20000 in
/-- mark, Person -/
theorem x_markPerson_5 (d : Nat) (n : Nat → Nat) (c : Nat → Nat → Nat) (v : Nat → Int32) (u : Nat → Nat) (yd : Nat) (k : Nat) (st : mSt) (hcw : st.1 0 1 = nI 5) (hX : X5 st n c) (hB : CB n c) (hN : N21 st v u yd) (hU : ∀ j, 3 ≤ j → j < 12 → u j < 256) (hk : k < n 0) : mMC mT (d + 2) 115 [.ref 0, .int (nI k)] st (some (.int (nI (c 0 k)))) (tU st 0 12 1) := by
  refine mI_X9_markAsPerson (d := d + 1) (Nat.le_of_ble_eq_true rfl) (fun Q hq => ?_)
  show mW (mMC mT (d + 1)) (0, fun _ => 0) (mAtL P_X9_markAsPerson) (some .int) Q 0 [some (.ref 0), some (.int (nI k))] [] st
  have hcr : (st.1 0 1).toNatClampNeg = 5 := by rw [hcw]; rfl
  obtain ⟨hb0, hb1, hb2, hbd, hbs, hby⟩ := id hB
  refine w_blk 7 (pc' := 11) (ls' := [some (.ref 0), some (.int (nI k))]) (sk' := [.ref 0]) (st' := (st.1, (mUL st.2 0 12 ((st.2 0 12) + 1)))) (fun _ h => h) ?_
  refine w_blk 1 (pc' := 14) (ls' := [some (.ref 0), some (.int (nI k))]) (sk' := [.ref (Int32.toNatClampNeg (st.1 0 1))]) (st' := (st.1, (mUL st.2 0 12 ((st.2 0 12) + 1)))) (fun _ h => h) ?_
  rw [show Int32.toNatClampNeg (st.1 0 1) = 5 from hcr]
  refine w_blk 2 (pc' := 18) (ls' := [some (.ref 0), some (.int (nI k))]) (sk' := [.int (nI k), .ref 6]) (st' := (st.1, (mUL st.2 0 12 ((st.2 0 12) + 1)))) (fun _ h => h) ?_
  refine w_callS (As := [.ref 6, .int (nI k)]) (rest := []) rfl rfl rfl (Nat.le_of_ble_eq_true rfl) (Nat.le_of_ble_eq_true rfl) (c_cellK (d + 0) 6 6 k (st.1, (mUL st.2 0 12 ((st.2 0 12) + 1))) (by omega) (by decide) rfl) ?_
  rw [(hX.2.2.2.1 k (by omega)).1]
  exact w_iret rfl rfl rfl hq
set_option maxRecDepth 20000 in
/-- mark, Person -/
theorem x_markPerson_13 (d : Nat) (n : Nat → Nat) (c : Nat → Nat → Nat) (v : Nat → Int32) (u : Nat → Nat) (yd : Nat) (k : Nat) (st : mSt) (hcw : st.1 0 1 = nI 13) (hX : X13 st n c) (hB : CB n c) (hN : N21 st v u yd) (hU : ∀ j, 3 ≤ j → j < 12 → u j < 256) (hk : k < n 0) : mMC mT (d + 2) 115 [.ref 0, .int (nI k)] st (some (.int (nI (c 0 k)))) (tU st 0 12 1) := by
  refine mI_X9_markAsPerson (d := d + 1) (Nat.le_of_ble_eq_true rfl) (fun Q hq => ?_)
  show mW (mMC mT (d + 1)) (0, fun _ => 0) (mAtL P_X9_markAsPerson) (some .int) Q 0 [some (.ref 0), some (.int (nI k))] [] st
  have hcr : (st.1 0 1).toNatClampNeg = 13 := by rw [hcw]; rfl
  obtain ⟨hb0, hb1, hb2, hbd, hbs, hby⟩ := id hB
  refine w_blk 7 (pc' := 11) (ls' := [some (.ref 0), some (.int (nI k))]) (sk' := [.ref 0]) (st' := (st.1, (mUL st.2 0 12 ((st.2 0 12) + 1)))) (fun _ h => h) ?_
  refine w_blk 1 (pc' := 14) (ls' := [some (.ref 0), some (.int (nI k))]) (sk' := [.ref (Int32.toNatClampNeg (st.1 0 1))]) (st' := (st.1, (mUL st.2 0 12 ((st.2 0 12) + 1)))) (fun _ h => h) ?_
  rw [show Int32.toNatClampNeg (st.1 0 1) = 13 from hcr]
  refine w_blk 2 (pc' := 18) (ls' := [some (.ref 0), some (.int (nI k))]) (sk' := [.int (nI k), .ref 14]) (st' := (st.1, (mUL st.2 0 12 ((st.2 0 12) + 1)))) (fun _ h => h) ?_
  refine w_callS (As := [.ref 14, .int (nI k)]) (rest := []) rfl rfl rfl (Nat.le_of_ble_eq_true rfl) (Nat.le_of_ble_eq_true rfl) (c_cellK (d + 0) 14 6 k (st.1, (mUL st.2 0 12 ((st.2 0 12) + 1))) (by omega) (by decide) rfl) ?_
  rw [(hX.2.2.2.1 k (by omega)).1]
  exact w_iret rfl rfl rfl hq
set_option maxRecDepth 20000 in
/-- mark, Digger -/
theorem x_markDigger_5 (d : Nat) (n : Nat → Nat) (c : Nat → Nat → Nat) (v : Nat → Int32) (u : Nat → Nat) (yd : Nat) (k : Nat) (st : mSt) (hcw : st.1 0 1 = nI 5) (hX : X5 st n c) (hB : CB n c) (hN : N21 st v u yd) (hU : ∀ j, 3 ≤ j → j < 12 → u j < 256) (hk : k < n 0) : mMC mT (d + 3) 116 [.ref 0, .int (nI k)] st (some (.int (nI (c 0 k + pop (u (6 + k)) 8)))) (tU st 0 12 11) := by
  refine mI_X9_markAsDigger (d := d + 2) (Nat.le_of_ble_eq_true rfl) (fun Q hq => ?_)
  show mW (mMC mT (d + 2)) (0, fun _ => 0) (mAtL P_X9_markAsDigger) (some .int) Q 0 [some (.ref 0), some (.int (nI k))] [] st
  have hcr : (st.1 0 1).toNatClampNeg = 5 := by rw [hcw]; rfl
  obtain ⟨hb0, hb1, hb2, hbd, hbs, hby⟩ := id hB
  refine w_blk 8 (pc' := 14) (ls' := [some (.ref 0), some (.int (nI k))]) (sk' := [.int (nI k), .ref 0]) (st' := (st.1, (mUL st.2 0 12 ((st.2 0 12) + 10)))) (fun _ h => h) ?_
  have hsub := x_markPerson_5 (d + 0) n c v u yd k (tU st 0 12 10) hcw hX hB hN hU hk
  rw [tU_add (e := 11) (by decide)] at hsub
  refine w_callV (As := [.ref 0, .int (nI k)]) (rest := []) rfl rfl rfl (Nat.le_of_ble_eq_true rfl) (Nat.le_of_ble_eq_true rfl) (by first | exact Or.inl ⟨rfl, rfl⟩ | exact Or.inr ⟨rfl, rfl⟩) hsub ?_
  refine w_blk 4 (pc' := 25) (ls' := [some (.ref 0), some (.int (nI k))]) (sk' := [.int (nI k), .ref 22, .int (nI (c 0 k))]) (st' := (tU st 0 12 11)) (fun _ h => h) ?_
  refine w_callS (As := [.ref 22, .int (nI k)]) (rest := [.int (nI (c 0 k))]) rfl rfl rfl (Nat.le_of_ble_eq_true rfl) (Nat.le_of_ble_eq_true rfl) (c_cellK (d + 1) 22 6 k (tU st 0 12 11) (by omega) (by decide) rfl) ?_
  rw [show ((tU st 0 12 11).1 22 k) = (nI (u (6 + k))) from hN.2.2.2.2.2.2.2.1 k (by omega)]
  refine w_callS (As := [.int (nI (u (6 + k)))]) (rest := [.int (nI (c 0 k))]) rfl rfl rfl (Nat.le_of_ble_eq_true rfl) (Nat.le_of_ble_eq_true rfl) (c_bitCountK (d + 1) (u (6 + k)) (tU st 0 12 11) (hU (6 + k) (by omega) (by omega))) ?_
  refine w_blk 1 (pc' := 32) (ls' := [some (.ref 0), some (.int (nI k))]) (sk' := [.int ((nI (c 0 k)) + (nI (pop (u (6 + k)) 8)))]) (st' := (tU st 0 12 11)) (fun _ h => h) ?_
  rw [show ((nI (c 0 k)) + (nI (pop (u (6 + k)) 8))) = nI ((c 0 k) + (pop (u (6 + k)) 8)) from nI_add (c 0 k) (pop (u (6 + k)) 8)]
  exact w_iret rfl rfl rfl hq
set_option maxRecDepth 20000 in
/-- mark, Digger -/
theorem x_markDigger_13 (d : Nat) (n : Nat → Nat) (c : Nat → Nat → Nat) (v : Nat → Int32) (u : Nat → Nat) (yd : Nat) (k : Nat) (st : mSt) (hcw : st.1 0 1 = nI 13) (hX : X13 st n c) (hB : CB n c) (hN : N21 st v u yd) (hU : ∀ j, 3 ≤ j → j < 12 → u j < 256) (hk : k < n 0) : mMC mT (d + 3) 116 [.ref 0, .int (nI k)] st (some (.int (nI (c 0 k + pop (u (6 + k)) 8)))) (tU st 0 12 11) := by
  refine mI_X9_markAsDigger (d := d + 2) (Nat.le_of_ble_eq_true rfl) (fun Q hq => ?_)
  show mW (mMC mT (d + 2)) (0, fun _ => 0) (mAtL P_X9_markAsDigger) (some .int) Q 0 [some (.ref 0), some (.int (nI k))] [] st
  have hcr : (st.1 0 1).toNatClampNeg = 13 := by rw [hcw]; rfl
  obtain ⟨hb0, hb1, hb2, hbd, hbs, hby⟩ := id hB
  refine w_blk 8 (pc' := 14) (ls' := [some (.ref 0), some (.int (nI k))]) (sk' := [.int (nI k), .ref 0]) (st' := (st.1, (mUL st.2 0 12 ((st.2 0 12) + 10)))) (fun _ h => h) ?_
  have hsub := x_markPerson_13 (d + 0) n c v u yd k (tU st 0 12 10) hcw hX hB hN hU hk
  rw [tU_add (e := 11) (by decide)] at hsub
  refine w_callV (As := [.ref 0, .int (nI k)]) (rest := []) rfl rfl rfl (Nat.le_of_ble_eq_true rfl) (Nat.le_of_ble_eq_true rfl) (by first | exact Or.inl ⟨rfl, rfl⟩ | exact Or.inr ⟨rfl, rfl⟩) hsub ?_
  refine w_blk 4 (pc' := 25) (ls' := [some (.ref 0), some (.int (nI k))]) (sk' := [.int (nI k), .ref 22, .int (nI (c 0 k))]) (st' := (tU st 0 12 11)) (fun _ h => h) ?_
  refine w_callS (As := [.ref 22, .int (nI k)]) (rest := [.int (nI (c 0 k))]) rfl rfl rfl (Nat.le_of_ble_eq_true rfl) (Nat.le_of_ble_eq_true rfl) (c_cellK (d + 1) 22 6 k (tU st 0 12 11) (by omega) (by decide) rfl) ?_
  rw [show ((tU st 0 12 11).1 22 k) = (nI (u (6 + k))) from hN.2.2.2.2.2.2.2.1 k (by omega)]
  refine w_callS (As := [.int (nI (u (6 + k)))]) (rest := [.int (nI (c 0 k))]) rfl rfl rfl (Nat.le_of_ble_eq_true rfl) (Nat.le_of_ble_eq_true rfl) (c_bitCountK (d + 1) (u (6 + k)) (tU st 0 12 11) (hU (6 + k) (by omega) (by omega))) ?_
  refine w_blk 1 (pc' := 32) (ls' := [some (.ref 0), some (.int (nI k))]) (sk' := [.int ((nI (c 0 k)) + (nI (pop (u (6 + k)) 8)))]) (st' := (tU st 0 12 11)) (fun _ h => h) ?_
  rw [show ((nI (c 0 k)) + (nI (pop (u (6 + k)) 8))) = nI ((c 0 k) + (pop (u (6 + k)) 8)) from nI_add (c 0 k) (pop (u (6 + k)) 8)]
  exact w_iret rfl rfl rfl hq
set_option maxRecDepth 20000 in
/-- mark, Singer -/
theorem x_markSinger_5 (d : Nat) (n : Nat → Nat) (c : Nat → Nat → Nat) (v : Nat → Int32) (u : Nat → Nat) (yd : Nat) (k : Nat) (st : mSt) (hcw : st.1 0 1 = nI 5) (hX : X5 st n c) (hB : CB n c) (hN : N21 st v u yd) (hU : ∀ j, 3 ≤ j → j < 12 → u j < 256) (hk : k < n 0) : mMC mT (d + 3) 117 [.ref 0, .int (nI k)] st (some (.int (nI (c 0 k) + v 0))) (tU st 0 12 101) := by
  refine mI_X9_markAsSinger (d := d + 2) (Nat.le_of_ble_eq_true rfl) (fun Q hq => ?_)
  show mW (mMC mT (d + 2)) (0, fun _ => 0) (mAtL P_X9_markAsSinger) (some .int) Q 0 [some (.ref 0), some (.int (nI k))] [] st
  have hcr : (st.1 0 1).toNatClampNeg = 5 := by rw [hcw]; rfl
  obtain ⟨hb0, hb1, hb2, hbd, hbs, hby⟩ := id hB
  refine w_blk 8 (pc' := 14) (ls' := [some (.ref 0), some (.int (nI k))]) (sk' := [.int (nI k), .ref 0]) (st' := (st.1, (mUL st.2 0 12 ((st.2 0 12) + 100)))) (fun _ h => h) ?_
  have hsub := x_markPerson_5 (d + 0) n c v u yd k (tU st 0 12 100) hcw hX hB hN hU hk
  rw [tU_add (e := 101) (by decide)] at hsub
  refine w_callV (As := [.ref 0, .int (nI k)]) (rest := []) rfl rfl rfl (Nat.le_of_ble_eq_true rfl) (Nat.le_of_ble_eq_true rfl) (by first | exact Or.inl ⟨rfl, rfl⟩ | exact Or.inr ⟨rfl, rfl⟩) hsub ?_
  refine w_blk 3 (pc' := 24) (ls' := [some (.ref 0), some (.int (nI k))]) (sk' := [.int ((tU st 0 12 101).1 21 0), .int (nI (c 0 k))]) (st' := (tU st 0 12 101)) (fun _ h => h) ?_
  rw [show ((tU st 0 12 101).1 21 0) = (v 0) from hN.1]
  refine w_blk 1 (pc' := 25) (ls' := [some (.ref 0), some (.int (nI k))]) (sk' := [.int ((nI (c 0 k)) + (v 0))]) (st' := (tU st 0 12 101)) (fun _ h => h) ?_
  exact w_iret rfl rfl rfl hq
set_option maxRecDepth 20000 in
/-- mark, Singer -/
theorem x_markSinger_13 (d : Nat) (n : Nat → Nat) (c : Nat → Nat → Nat) (v : Nat → Int32) (u : Nat → Nat) (yd : Nat) (k : Nat) (st : mSt) (hcw : st.1 0 1 = nI 13) (hX : X13 st n c) (hB : CB n c) (hN : N21 st v u yd) (hU : ∀ j, 3 ≤ j → j < 12 → u j < 256) (hk : k < n 0) : mMC mT (d + 3) 117 [.ref 0, .int (nI k)] st (some (.int (nI (c 0 k) + v 0))) (tU st 0 12 101) := by
  refine mI_X9_markAsSinger (d := d + 2) (Nat.le_of_ble_eq_true rfl) (fun Q hq => ?_)
  show mW (mMC mT (d + 2)) (0, fun _ => 0) (mAtL P_X9_markAsSinger) (some .int) Q 0 [some (.ref 0), some (.int (nI k))] [] st
  have hcr : (st.1 0 1).toNatClampNeg = 13 := by rw [hcw]; rfl
  obtain ⟨hb0, hb1, hb2, hbd, hbs, hby⟩ := id hB
  refine w_blk 8 (pc' := 14) (ls' := [some (.ref 0), some (.int (nI k))]) (sk' := [.int (nI k), .ref 0]) (st' := (st.1, (mUL st.2 0 12 ((st.2 0 12) + 100)))) (fun _ h => h) ?_
  have hsub := x_markPerson_13 (d + 0) n c v u yd k (tU st 0 12 100) hcw hX hB hN hU hk
  rw [tU_add (e := 101) (by decide)] at hsub
  refine w_callV (As := [.ref 0, .int (nI k)]) (rest := []) rfl rfl rfl (Nat.le_of_ble_eq_true rfl) (Nat.le_of_ble_eq_true rfl) (by first | exact Or.inl ⟨rfl, rfl⟩ | exact Or.inr ⟨rfl, rfl⟩) hsub ?_
  refine w_blk 3 (pc' := 24) (ls' := [some (.ref 0), some (.int (nI k))]) (sk' := [.int ((tU st 0 12 101).1 21 0), .int (nI (c 0 k))]) (st' := (tU st 0 12 101)) (fun _ h => h) ?_
  rw [show ((tU st 0 12 101).1 21 0) = (v 0) from hN.1]
  refine w_blk 1 (pc' := 25) (ls' := [some (.ref 0), some (.int (nI k))]) (sk' := [.int ((nI (c 0 k)) + (v 0))]) (st' := (tU st 0 12 101)) (fun _ h => h) ?_
  exact w_iret rfl rfl rfl hq
set_option maxRecDepth 20000 in
/-- mark, Left -/
theorem x_markLeft_5 (d : Nat) (n : Nat → Nat) (c : Nat → Nat → Nat) (v : Nat → Int32) (u : Nat → Nat) (yd : Nat) (k : Nat) (st : mSt) (hcw : st.1 0 1 = nI 5) (hX : X5 st n c) (hB : CB n c) (hN : N21 st v u yd) (hU : ∀ j, 3 ≤ j → j < 12 → u j < 256) (hk : k < n 0) : mMC mT (d + 4) 118 [.ref 0, .int (nI k)] st (some (.int (nI ((c 0 k + pop (u (6 + k)) 8) * 2)))) (tU st 0 12 1011) := by
  refine mI_X9_markAsLeft (d := d + 3) (Nat.le_of_ble_eq_true rfl) (fun Q hq => ?_)
  show mW (mMC mT (d + 3)) (0, fun _ => 0) (mAtL P_X9_markAsLeft) (some .int) Q 0 [some (.ref 0), some (.int (nI k))] [] st
  have hcr : (st.1 0 1).toNatClampNeg = 5 := by rw [hcw]; rfl
  obtain ⟨hb0, hb1, hb2, hbd, hbs, hby⟩ := id hB
  refine w_blk 8 (pc' := 14) (ls' := [some (.ref 0), some (.int (nI k))]) (sk' := [.int (nI k), .ref 0]) (st' := (st.1, (mUL st.2 0 12 ((st.2 0 12) + 1000)))) (fun _ h => h) ?_
  have hsub := x_markDigger_5 (d + 0) n c v u yd k (tU st 0 12 1000) hcw hX hB hN hU hk
  rw [tU_add (e := 1011) (by decide)] at hsub
  refine w_callV (As := [.ref 0, .int (nI k)]) (rest := []) rfl rfl rfl (Nat.le_of_ble_eq_true rfl) (Nat.le_of_ble_eq_true rfl) (by first | exact Or.inl ⟨rfl, rfl⟩ | exact Or.inr ⟨rfl, rfl⟩) hsub ?_
  refine w_blk 2 (pc' := 19) (ls' := [some (.ref 0), some (.int (nI k))]) (sk' := [.int ((nI (c 0 k + pop (u (6 + k)) 8)) * 2)]) (st' := (tU st 0 12 1011)) (fun _ h => h) ?_
  rw [show ((nI (c 0 k + pop (u (6 + k)) 8)) * 2) = nI ((c 0 k + pop (u (6 + k)) 8) * 2) from pk_mul (c 0 k + pop (u (6 + k)) 8) 2]
  exact w_iret rfl rfl rfl hq
set_option maxRecDepth 20000 in
/-- mark, Left -/
theorem x_markLeft_13 (d : Nat) (n : Nat → Nat) (c : Nat → Nat → Nat) (v : Nat → Int32) (u : Nat → Nat) (yd : Nat) (k : Nat) (st : mSt) (hcw : st.1 0 1 = nI 13) (hX : X13 st n c) (hB : CB n c) (hN : N21 st v u yd) (hU : ∀ j, 3 ≤ j → j < 12 → u j < 256) (hk : k < n 0) : mMC mT (d + 4) 118 [.ref 0, .int (nI k)] st (some (.int (nI ((c 0 k + pop (u (6 + k)) 8) * 2)))) (tU st 0 12 1011) := by
  refine mI_X9_markAsLeft (d := d + 3) (Nat.le_of_ble_eq_true rfl) (fun Q hq => ?_)
  show mW (mMC mT (d + 3)) (0, fun _ => 0) (mAtL P_X9_markAsLeft) (some .int) Q 0 [some (.ref 0), some (.int (nI k))] [] st
  have hcr : (st.1 0 1).toNatClampNeg = 13 := by rw [hcw]; rfl
  obtain ⟨hb0, hb1, hb2, hbd, hbs, hby⟩ := id hB
  refine w_blk 8 (pc' := 14) (ls' := [some (.ref 0), some (.int (nI k))]) (sk' := [.int (nI k), .ref 0]) (st' := (st.1, (mUL st.2 0 12 ((st.2 0 12) + 1000)))) (fun _ h => h) ?_
  have hsub := x_markDigger_13 (d + 0) n c v u yd k (tU st 0 12 1000) hcw hX hB hN hU hk
  rw [tU_add (e := 1011) (by decide)] at hsub
  refine w_callV (As := [.ref 0, .int (nI k)]) (rest := []) rfl rfl rfl (Nat.le_of_ble_eq_true rfl) (Nat.le_of_ble_eq_true rfl) (by first | exact Or.inl ⟨rfl, rfl⟩ | exact Or.inr ⟨rfl, rfl⟩) hsub ?_
  refine w_blk 2 (pc' := 19) (ls' := [some (.ref 0), some (.int (nI k))]) (sk' := [.int ((nI (c 0 k + pop (u (6 + k)) 8)) * 2)]) (st' := (tU st 0 12 1011)) (fun _ h => h) ?_
  rw [show ((nI (c 0 k + pop (u (6 + k)) 8)) * 2) = nI ((c 0 k + pop (u (6 + k)) 8) * 2) from pk_mul (c 0 k + pop (u (6 + k)) 8) 2]
  exact w_iret rfl rfl rfl hq
set_option maxRecDepth 20000 in
/-- mark, Prophet -/
theorem x_markProphet_5 (d : Nat) (n : Nat → Nat) (c : Nat → Nat → Nat) (v : Nat → Int32) (u : Nat → Nat) (yd : Nat) (k : Nat) (st : mSt) (hcw : st.1 0 1 = nI 5) (hX : X5 st n c) (hB : CB n c) (hN : N21 st v u yd) (hU : ∀ j, 3 ≤ j → j < 12 → u j < 256) (hk : k < n 0) : mMC mT (d + 4) 119 [.ref 0, .int (nI k)] st (some (.int (nI (c 0 k) + v 0 - nI (pop (u 5) 8)))) (tU st 0 12 10101) := by
  refine mI_X9_markAsProphet (d := d + 3) (Nat.le_of_ble_eq_true rfl) (fun Q hq => ?_)
  show mW (mMC mT (d + 3)) (0, fun _ => 0) (mAtL P_X9_markAsProphet) (some .int) Q 0 [some (.ref 0), some (.int (nI k))] [] st
  have hcr : (st.1 0 1).toNatClampNeg = 5 := by rw [hcw]; rfl
  obtain ⟨hb0, hb1, hb2, hbd, hbs, hby⟩ := id hB
  refine w_blk 8 (pc' := 14) (ls' := [some (.ref 0), some (.int (nI k))]) (sk' := [.int (nI k), .ref 0]) (st' := (st.1, (mUL st.2 0 12 ((st.2 0 12) + 10000)))) (fun _ h => h) ?_
  have hsub := x_markSinger_5 (d + 0) n c v u yd k (tU st 0 12 10000) hcw hX hB hN hU hk
  rw [tU_add (e := 10101) (by decide)] at hsub
  refine w_callV (As := [.ref 0, .int (nI k)]) (rest := []) rfl rfl rfl (Nat.le_of_ble_eq_true rfl) (Nat.le_of_ble_eq_true rfl) (by first | exact Or.inl ⟨rfl, rfl⟩ | exact Or.inr ⟨rfl, rfl⟩) hsub ?_
  refine w_blk 3 (pc' := 24) (ls' := [some (.ref 0), some (.int (nI k))]) (sk' := [.int ((tU st 0 12 10101).1 21 6), .int (nI (c 0 k) + v 0)]) (st' := (tU st 0 12 10101)) (fun _ h => h) ?_
  rw [show ((tU st 0 12 10101).1 21 6) = (nI (u 5)) from hN.2.2.2.2.2.2.1]
  refine w_callS (As := [.int (nI (u 5))]) (rest := [.int (nI (c 0 k) + v 0)]) rfl rfl rfl (Nat.le_of_ble_eq_true rfl) (Nat.le_of_ble_eq_true rfl) (c_bitCountK (d + 2) (u 5) (tU st 0 12 10101) (hU 5 (by omega) (by omega))) ?_
  refine w_blk 1 (pc' := 28) (ls' := [some (.ref 0), some (.int (nI k))]) (sk' := [.int ((nI (c 0 k) + v 0) - (nI (pop (u 5) 8)))]) (st' := (tU st 0 12 10101)) (fun _ h => h) ?_
  exact w_iret rfl rfl rfl hq
set_option maxRecDepth 20000 in
/-- mark, Prophet -/
theorem x_markProphet_13 (d : Nat) (n : Nat → Nat) (c : Nat → Nat → Nat) (v : Nat → Int32) (u : Nat → Nat) (yd : Nat) (k : Nat) (st : mSt) (hcw : st.1 0 1 = nI 13) (hX : X13 st n c) (hB : CB n c) (hN : N21 st v u yd) (hU : ∀ j, 3 ≤ j → j < 12 → u j < 256) (hk : k < n 0) : mMC mT (d + 4) 119 [.ref 0, .int (nI k)] st (some (.int (nI (c 0 k) + v 0 - nI (pop (u 5) 8)))) (tU st 0 12 10101) := by
  refine mI_X9_markAsProphet (d := d + 3) (Nat.le_of_ble_eq_true rfl) (fun Q hq => ?_)
  show mW (mMC mT (d + 3)) (0, fun _ => 0) (mAtL P_X9_markAsProphet) (some .int) Q 0 [some (.ref 0), some (.int (nI k))] [] st
  have hcr : (st.1 0 1).toNatClampNeg = 13 := by rw [hcw]; rfl
  obtain ⟨hb0, hb1, hb2, hbd, hbs, hby⟩ := id hB
  refine w_blk 8 (pc' := 14) (ls' := [some (.ref 0), some (.int (nI k))]) (sk' := [.int (nI k), .ref 0]) (st' := (st.1, (mUL st.2 0 12 ((st.2 0 12) + 10000)))) (fun _ h => h) ?_
  have hsub := x_markSinger_13 (d + 0) n c v u yd k (tU st 0 12 10000) hcw hX hB hN hU hk
  rw [tU_add (e := 10101) (by decide)] at hsub
  refine w_callV (As := [.ref 0, .int (nI k)]) (rest := []) rfl rfl rfl (Nat.le_of_ble_eq_true rfl) (Nat.le_of_ble_eq_true rfl) (by first | exact Or.inl ⟨rfl, rfl⟩ | exact Or.inr ⟨rfl, rfl⟩) hsub ?_
  refine w_blk 3 (pc' := 24) (ls' := [some (.ref 0), some (.int (nI k))]) (sk' := [.int ((tU st 0 12 10101).1 21 6), .int (nI (c 0 k) + v 0)]) (st' := (tU st 0 12 10101)) (fun _ h => h) ?_
  rw [show ((tU st 0 12 10101).1 21 6) = (nI (u 5)) from hN.2.2.2.2.2.2.1]
  refine w_callS (As := [.int (nI (u 5))]) (rest := [.int (nI (c 0 k) + v 0)]) rfl rfl rfl (Nat.le_of_ble_eq_true rfl) (Nat.le_of_ble_eq_true rfl) (c_bitCountK (d + 2) (u 5) (tU st 0 12 10101) (hU 5 (by omega) (by omega))) ?_
  refine w_blk 1 (pc' := 28) (ls' := [some (.ref 0), some (.int (nI k))]) (sk' := [.int ((nI (c 0 k) + v 0) - (nI (pop (u 5) 8)))]) (st' := (tU st 0 12 10101)) (fun _ h => h) ?_
  exact w_iret rfl rfl rfl hq
set_option maxRecDepth 20000 in
/-- mark, Slow -/
theorem x_markSlow_5 (d : Nat) (n : Nat → Nat) (c : Nat → Nat → Nat) (v : Nat → Int32) (u : Nat → Nat) (yd : Nat) (k : Nat) (st : mSt) (hcw : st.1 0 1 = nI 5) (hX : X5 st n c) (hB : CB n c) (hN : N21 st v u yd) (hU : ∀ j, 3 ≤ j → j < 12 → u j < 256) (hk : k < n 0) : mMC mT (d + 3) 120 [.ref 0, .int (nI k)] st (some (.int (nI (c 0 k) - nI (c 1 k)))) (tU st 0 12 100001) := by
  refine mI_X9_markAsSlow (d := d + 2) (Nat.le_of_ble_eq_true rfl) (fun Q hq => ?_)
  show mW (mMC mT (d + 2)) (0, fun _ => 0) (mAtL P_X9_markAsSlow) (some .int) Q 0 [some (.ref 0), some (.int (nI k))] [] st
  have hcr : (st.1 0 1).toNatClampNeg = 5 := by rw [hcw]; rfl
  obtain ⟨hb0, hb1, hb2, hbd, hbs, hby⟩ := id hB
  refine w_blk 8 (pc' := 14) (ls' := [some (.ref 0), some (.int (nI k))]) (sk' := [.int (nI k), .ref 0]) (st' := (st.1, (mUL st.2 0 12 ((st.2 0 12) + 100000)))) (fun _ h => h) ?_
  have hsub := x_markPerson_5 (d + 0) n c v u yd k (tU st 0 12 100000) hcw hX hB hN hU hk
  rw [tU_add (e := 100001) (by decide)] at hsub
  refine w_callV (As := [.ref 0, .int (nI k)]) (rest := []) rfl rfl rfl (Nat.le_of_ble_eq_true rfl) (Nat.le_of_ble_eq_true rfl) (by first | exact Or.inl ⟨rfl, rfl⟩ | exact Or.inr ⟨rfl, rfl⟩) hsub ?_
  refine w_blk 1 (pc' := 18) (ls' := [some (.ref 0), some (.int (nI k))]) (sk' := [.ref 0, .int (nI (c 0 k))]) (st' := (tU st 0 12 100001)) (fun _ h => h) ?_
  refine w_blk 1 (pc' := 21) (ls' := [some (.ref 0), some (.int (nI k))]) (sk' := [.ref (Int32.toNatClampNeg ((tU st 0 12 100001).1 0 1)), .int (nI (c 0 k))]) (st' := (tU st 0 12 100001)) (fun _ h => h) ?_
  rw [show Int32.toNatClampNeg ((tU st 0 12 100001).1 0 1) = 5 from hcr]
  refine w_blk 2 (pc' := 25) (ls' := [some (.ref 0), some (.int (nI k))]) (sk' := [.int (nI k), .ref 7, .int (nI (c 0 k))]) (st' := (tU st 0 12 100001)) (fun _ h => h) ?_
  refine w_callS (As := [.ref 7, .int (nI k)]) (rest := [.int (nI (c 0 k))]) rfl rfl rfl (Nat.le_of_ble_eq_true rfl) (Nat.le_of_ble_eq_true rfl) (c_cellK (d + 1) 7 6 k (tU st 0 12 100001) (by omega) (by decide) rfl) ?_
  rw [show ((tU st 0 12 100001).1 7 k) = (nI (c 1 k)) from (hX.2.2.2.1 k (by omega)).2.1]
  refine w_blk 1 (pc' := 29) (ls' := [some (.ref 0), some (.int (nI k))]) (sk' := [.int ((nI (c 0 k)) - (nI (c 1 k)))]) (st' := (tU st 0 12 100001)) (fun _ h => h) ?_
  exact w_iret rfl rfl rfl hq
set_option maxRecDepth 20000 in
/-- mark, Slow -/
theorem x_markSlow_13 (d : Nat) (n : Nat → Nat) (c : Nat → Nat → Nat) (v : Nat → Int32) (u : Nat → Nat) (yd : Nat) (k : Nat) (st : mSt) (hcw : st.1 0 1 = nI 13) (hX : X13 st n c) (hB : CB n c) (hN : N21 st v u yd) (hU : ∀ j, 3 ≤ j → j < 12 → u j < 256) (hk : k < n 0) : mMC mT (d + 3) 120 [.ref 0, .int (nI k)] st (some (.int (nI (c 0 k) - nI (c 1 k)))) (tU st 0 12 100001) := by
  refine mI_X9_markAsSlow (d := d + 2) (Nat.le_of_ble_eq_true rfl) (fun Q hq => ?_)
  show mW (mMC mT (d + 2)) (0, fun _ => 0) (mAtL P_X9_markAsSlow) (some .int) Q 0 [some (.ref 0), some (.int (nI k))] [] st
  have hcr : (st.1 0 1).toNatClampNeg = 13 := by rw [hcw]; rfl
  obtain ⟨hb0, hb1, hb2, hbd, hbs, hby⟩ := id hB
  refine w_blk 8 (pc' := 14) (ls' := [some (.ref 0), some (.int (nI k))]) (sk' := [.int (nI k), .ref 0]) (st' := (st.1, (mUL st.2 0 12 ((st.2 0 12) + 100000)))) (fun _ h => h) ?_
  have hsub := x_markPerson_13 (d + 0) n c v u yd k (tU st 0 12 100000) hcw hX hB hN hU hk
  rw [tU_add (e := 100001) (by decide)] at hsub
  refine w_callV (As := [.ref 0, .int (nI k)]) (rest := []) rfl rfl rfl (Nat.le_of_ble_eq_true rfl) (Nat.le_of_ble_eq_true rfl) (by first | exact Or.inl ⟨rfl, rfl⟩ | exact Or.inr ⟨rfl, rfl⟩) hsub ?_
  refine w_blk 1 (pc' := 18) (ls' := [some (.ref 0), some (.int (nI k))]) (sk' := [.ref 0, .int (nI (c 0 k))]) (st' := (tU st 0 12 100001)) (fun _ h => h) ?_
  refine w_blk 1 (pc' := 21) (ls' := [some (.ref 0), some (.int (nI k))]) (sk' := [.ref (Int32.toNatClampNeg ((tU st 0 12 100001).1 0 1)), .int (nI (c 0 k))]) (st' := (tU st 0 12 100001)) (fun _ h => h) ?_
  rw [show Int32.toNatClampNeg ((tU st 0 12 100001).1 0 1) = 13 from hcr]
  refine w_blk 2 (pc' := 25) (ls' := [some (.ref 0), some (.int (nI k))]) (sk' := [.int (nI k), .ref 15, .int (nI (c 0 k))]) (st' := (tU st 0 12 100001)) (fun _ h => h) ?_
  refine w_callS (As := [.ref 15, .int (nI k)]) (rest := [.int (nI (c 0 k))]) rfl rfl rfl (Nat.le_of_ble_eq_true rfl) (Nat.le_of_ble_eq_true rfl) (c_cellK (d + 1) 15 6 k (tU st 0 12 100001) (by omega) (by decide) rfl) ?_
  rw [show ((tU st 0 12 100001).1 15 k) = (nI (c 1 k)) from (hX.2.2.2.1 k (by omega)).2.1]
  refine w_blk 1 (pc' := 29) (ls' := [some (.ref 0), some (.int (nI k))]) (sk' := [.int ((nI (c 0 k)) - (nI (c 1 k)))]) (st' := (tU st 0 12 100001)) (fun _ h => h) ?_
  exact w_iret rfl rfl rfl hq
def sp_mark (n : Nat → Nat) (c : Nat → Nat → Nat) (v : Nat → Int32) (u : Nat → Nat) (w x : Int32) : Int32 := if ok0 n x then (if w = 0 then nI (c 0 x.toNatClampNeg) else if w = 1 then nI (c 0 x.toNatClampNeg + pop (u (6 + x.toNatClampNeg)) 8) else if w = 2 then nI (c 0 x.toNatClampNeg) + v 0 else if w = 3 then nI ((c 0 x.toNatClampNeg + pop (u (6 + x.toNatClampNeg)) 8) * 2) else if w = 4 then nI (c 0 x.toNatClampNeg) + v 0 - nI (pop (u 5) 8) else if w = 5 then nI (c 0 x.toNatClampNeg) - nI (c 1 x.toNatClampNeg) else -1000000) else -1000000
def mk_t (n : Nat → Nat) (w x : Int32) : Int64 := if ok0 n x then (if w = 0 then 1 else if w = 1 then 11 else if w = 2 then 101 else if w = 3 then 1011 else if w = 4 then 10101 else if w = 5 then 100001 else 0) else 0
theorem tU_0 {st : mSt} {p k : Nat} : tU st p k 0 = st := by
  unfold tU
  refine Prod.ext rfl ?_
  funext q j
  show mUL st.2 p k (st.2 p k + 0) q j = st.2 q j
  unfold mUL
  by_cases hq : q = p
  · rw [if_pos hq]
    by_cases hj : j = k
    · subst hj; subst hq
      rw [pk_uLs, Int64.add_zero]
    · rw [pk_uLn hj, hq]
  · rw [if_neg hq]
set_option maxRecDepth 20000 in
/-- mark -/
theorem x_mark_5 (d : Nat) (n : Nat → Nat) (c : Nat → Nat → Nat) (v : Nat → Int32) (u : Nat → Nat) (yd : Nat) (w x : Int32) (st : mSt) (hcw : st.1 0 1 = nI 5) (hX : X5 st n c) (hB : CB n c) (hN : N21 st v u yd) (hU : ∀ j, 3 ≤ j → j < 12 → u j < 256) : mMC mT (d + 5) 109 [.ref 0, .int w, .int x] st (some (.int (sp_mark n c v u w x))) (tU st 0 12 (mk_t n w x)) := by
  refine mI_X9_mark (d := d + 4) (Nat.le_of_ble_eq_true rfl) (fun Q hq => ?_)
  show mW (mMC mT (d + 4)) (0, fun _ => 0) (mAtL P_X9_mark) (some .int) Q 0 [some (.ref 0), some (.int w), some (.int x)] [] st
  have hcr : (st.1 0 1).toNatClampNeg = 5 := by rw [hcw]; rfl
  obtain ⟨hb0, hb1, hb2, hbd, hbs, hby⟩ := id hB
  refine w_blk 1 (pc' := 1) (ls' := [some (.ref 0), some (.int w), some (.int x)]) (sk' := [.ref 0]) (st' := st) (fun _ h => h) ?_
  refine w_blk 1 (pc' := 4) (ls' := [some (.ref 0), some (.int w), some (.int x)]) (sk' := [.ref (Int32.toNatClampNeg (st.1 0 1))]) (st' := st) (fun _ h => h) ?_
  rw [show Int32.toNatClampNeg (st.1 0 1) = 5 from hcr]
  refine w_blk 1 (pc' := 5) (ls' := [some (.ref 0), some (.int w), some (.int x)]) (sk' := [.int x, .ref 5]) (st' := st) (fun _ h => h) ?_
  refine w_callV (As := [.ref 5, .int x]) (rest := []) rfl rfl rfl (Nat.le_of_ble_eq_true rfl) (Nat.le_of_ble_eq_true rfl) (by first | exact Or.inl ⟨rfl, rfl⟩ | exact Or.inr ⟨rfl, rfl⟩) (c_hasDigger_5 (d + 3) x st) ?_
  rw [hX.1]
  refine w_if_ne rfl (fun h1 => ?_) (fun h1 => ?_)
  · replace h1 := pI_ne.mp h1
    obtain ⟨k, hk, rfl⟩ := nI_in2 (by omega) h1
    have hok : ok0 n (nI k) := nI_in3 (by omega) hk
    have ec := nI_clamp (show k < 2 ^ 31 by omega)
    refine w_blk 1 (pc' := 16) (ls' := [some (.ref 0), some (.int w), some (.int (nI k))]) (sk' := [.int w]) (st' := st) (fun _ h => h) ?_
    by_cases hw0 : w = 0
    · subst hw0
      refine w_tblIn (t := 56) rfl (by decide) (by decide) rfl rfl ?_
      refine w_blk 2 (pc' := 58) (ls' := [some (.ref 0), some (.int 0), some (.int (nI k))]) (sk' := [.int (nI k), .ref 0]) (st' := st) (fun _ h => h) ?_
      refine w_callV (As := [.ref 0, .int (nI k)]) (rest := []) rfl rfl rfl (Nat.le_of_ble_eq_true rfl) (Nat.le_of_ble_eq_true rfl) (by first | exact Or.inl ⟨rfl, rfl⟩ | exact Or.inr ⟨rfl, rfl⟩) (x_markPerson_5 (d + 2) n c v u yd k st hcw hX hB hN hU hk) ?_
      rw [show sp_mark n c v u 0 (nI k) = nI (c 0 k) from (if_pos hok).trans (by rw [ec]; rfl), show mk_t n 0 (nI k) = 1 from (if_pos hok).trans rfl] at hq
      exact w_iret rfl rfl rfl hq
    · by_cases hw1 : w = 1
      · subst hw1
        refine w_tblIn (t := 62) rfl (by decide) (by decide) rfl rfl ?_
        refine w_blk 2 (pc' := 64) (ls' := [some (.ref 0), some (.int 1), some (.int (nI k))]) (sk' := [.int (nI k), .ref 0]) (st' := st) (fun _ h => h) ?_
        refine w_callV (As := [.ref 0, .int (nI k)]) (rest := []) rfl rfl rfl (Nat.le_of_ble_eq_true rfl) (Nat.le_of_ble_eq_true rfl) (by first | exact Or.inl ⟨rfl, rfl⟩ | exact Or.inr ⟨rfl, rfl⟩) (x_markDigger_5 (d + 1) n c v u yd k st hcw hX hB hN hU hk) ?_
        rw [show sp_mark n c v u 1 (nI k) = nI (c 0 k + pop (u (6 + k)) 8) from (if_pos hok).trans (by rw [ec]; rfl), show mk_t n 1 (nI k) = 11 from (if_pos hok).trans rfl] at hq
        exact w_iret rfl rfl rfl hq
      · by_cases hw2 : w = 2
        · subst hw2
          refine w_tblIn (t := 68) rfl (by decide) (by decide) rfl rfl ?_
          refine w_blk 2 (pc' := 70) (ls' := [some (.ref 0), some (.int 2), some (.int (nI k))]) (sk' := [.int (nI k), .ref 0]) (st' := st) (fun _ h => h) ?_
          refine w_callV (As := [.ref 0, .int (nI k)]) (rest := []) rfl rfl rfl (Nat.le_of_ble_eq_true rfl) (Nat.le_of_ble_eq_true rfl) (by first | exact Or.inl ⟨rfl, rfl⟩ | exact Or.inr ⟨rfl, rfl⟩) (x_markSinger_5 (d + 1) n c v u yd k st hcw hX hB hN hU hk) ?_
          rw [show sp_mark n c v u 2 (nI k) = (nI (c 0 k) + v 0) from (if_pos hok).trans (by rw [ec]; rfl), show mk_t n 2 (nI k) = 101 from (if_pos hok).trans rfl] at hq
          exact w_iret rfl rfl rfl hq
        · by_cases hw3 : w = 3
          · subst hw3
            refine w_tblIn (t := 74) rfl (by decide) (by decide) rfl rfl ?_
            refine w_blk 2 (pc' := 76) (ls' := [some (.ref 0), some (.int 3), some (.int (nI k))]) (sk' := [.int (nI k), .ref 0]) (st' := st) (fun _ h => h) ?_
            refine w_callV (As := [.ref 0, .int (nI k)]) (rest := []) rfl rfl rfl (Nat.le_of_ble_eq_true rfl) (Nat.le_of_ble_eq_true rfl) (by first | exact Or.inl ⟨rfl, rfl⟩ | exact Or.inr ⟨rfl, rfl⟩) (x_markLeft_5 (d + 0) n c v u yd k st hcw hX hB hN hU hk) ?_
            rw [show sp_mark n c v u 3 (nI k) = nI ((c 0 k + pop (u (6 + k)) 8) * 2) from (if_pos hok).trans (by rw [ec]; rfl), show mk_t n 3 (nI k) = 1011 from (if_pos hok).trans rfl] at hq
            exact w_iret rfl rfl rfl hq
          · by_cases hw4 : w = 4
            · subst hw4
              refine w_tblIn (t := 80) rfl (by decide) (by decide) rfl rfl ?_
              refine w_blk 2 (pc' := 82) (ls' := [some (.ref 0), some (.int 4), some (.int (nI k))]) (sk' := [.int (nI k), .ref 0]) (st' := st) (fun _ h => h) ?_
              refine w_callV (As := [.ref 0, .int (nI k)]) (rest := []) rfl rfl rfl (Nat.le_of_ble_eq_true rfl) (Nat.le_of_ble_eq_true rfl) (by first | exact Or.inl ⟨rfl, rfl⟩ | exact Or.inr ⟨rfl, rfl⟩) (x_markProphet_5 (d + 0) n c v u yd k st hcw hX hB hN hU hk) ?_
              rw [show sp_mark n c v u 4 (nI k) = (nI (c 0 k) + v 0 - nI (pop (u 5) 8)) from (if_pos hok).trans (by rw [ec]; rfl), show mk_t n 4 (nI k) = 10101 from (if_pos hok).trans rfl] at hq
              exact w_iret rfl rfl rfl hq
            · by_cases hw5 : w = 5
              · subst hw5
                refine w_tblIn (t := 86) rfl (by decide) (by decide) rfl rfl ?_
                refine w_blk 2 (pc' := 88) (ls' := [some (.ref 0), some (.int 5), some (.int (nI k))]) (sk' := [.int (nI k), .ref 0]) (st' := st) (fun _ h => h) ?_
                refine w_callV (As := [.ref 0, .int (nI k)]) (rest := []) rfl rfl rfl (Nat.le_of_ble_eq_true rfl) (Nat.le_of_ble_eq_true rfl) (by first | exact Or.inl ⟨rfl, rfl⟩ | exact Or.inr ⟨rfl, rfl⟩) (x_markSlow_5 (d + 1) n c v u yd k st hcw hX hB hN hU hk) ?_
                rw [show sp_mark n c v u 5 (nI k) = (nI (c 0 k) - nI (c 1 k)) from (if_pos hok).trans (by rw [ec]; rfl), show mk_t n 5 (nI k) = 100001 from (if_pos hok).trans rfl] at hq
                exact w_iret rfl rfl rfl hq
              · refine w_tblOut (t := 92) rfl (tbl_out 5 (by decide) (by intro k hk; rcases (show k = 0 ∨ k = 1 ∨ k = 2 ∨ k = 3 ∨ k = 4 ∨ k = 5 by omega) with rfl | rfl | rfl | rfl | rfl | rfl <;> assumption)) rfl ?_
                refine w_blk 1 (pc' := 95) (ls' := [some (.ref 0), some (.int w), some (.int (nI k))]) (sk' := [.int (-1000000)]) (st' := st) (fun _ h => h) ?_
                rw [show sp_mark n c v u w (nI k) = -1000000 from (if_pos hok).trans (by rw [if_neg hw0, if_neg hw1, if_neg hw2, if_neg hw3, if_neg hw4, if_neg hw5]), show mk_t n w (nI k) = 0 from (if_pos hok).trans (by rw [if_neg hw0, if_neg hw1, if_neg hw2, if_neg hw3, if_neg hw4, if_neg hw5]), tU_0] at hq
                exact w_iret rfl rfl rfl hq
  · replace h1 := pI_eq0.mp (Decidable.not_not.mp h1)
    refine w_blk 1 (pc' := 14) (ls' := [some (.ref 0), some (.int w), some (.int x)]) (sk' := [.int (-1000000)]) (st' := st) (fun _ h => h) ?_
    rw [show sp_mark n c v u w x = -1000000 from if_neg h1, show mk_t n w x = 0 from if_neg h1, tU_0] at hq
    exact w_iret rfl rfl rfl hq
set_option maxRecDepth 20000 in
/-- mark -/
theorem x_mark_13 (d : Nat) (n : Nat → Nat) (c : Nat → Nat → Nat) (v : Nat → Int32) (u : Nat → Nat) (yd : Nat) (w x : Int32) (st : mSt) (hcw : st.1 0 1 = nI 13) (hX : X13 st n c) (hB : CB n c) (hN : N21 st v u yd) (hU : ∀ j, 3 ≤ j → j < 12 → u j < 256) : mMC mT (d + 5) 109 [.ref 0, .int w, .int x] st (some (.int (sp_mark n c v u w x))) (tU st 0 12 (mk_t n w x)) := by
  refine mI_X9_mark (d := d + 4) (Nat.le_of_ble_eq_true rfl) (fun Q hq => ?_)
  show mW (mMC mT (d + 4)) (0, fun _ => 0) (mAtL P_X9_mark) (some .int) Q 0 [some (.ref 0), some (.int w), some (.int x)] [] st
  have hcr : (st.1 0 1).toNatClampNeg = 13 := by rw [hcw]; rfl
  obtain ⟨hb0, hb1, hb2, hbd, hbs, hby⟩ := id hB
  refine w_blk 1 (pc' := 1) (ls' := [some (.ref 0), some (.int w), some (.int x)]) (sk' := [.ref 0]) (st' := st) (fun _ h => h) ?_
  refine w_blk 1 (pc' := 4) (ls' := [some (.ref 0), some (.int w), some (.int x)]) (sk' := [.ref (Int32.toNatClampNeg (st.1 0 1))]) (st' := st) (fun _ h => h) ?_
  rw [show Int32.toNatClampNeg (st.1 0 1) = 13 from hcr]
  refine w_blk 1 (pc' := 5) (ls' := [some (.ref 0), some (.int w), some (.int x)]) (sk' := [.int x, .ref 13]) (st' := st) (fun _ h => h) ?_
  refine w_callV (As := [.ref 13, .int x]) (rest := []) rfl rfl rfl (Nat.le_of_ble_eq_true rfl) (Nat.le_of_ble_eq_true rfl) (by first | exact Or.inl ⟨rfl, rfl⟩ | exact Or.inr ⟨rfl, rfl⟩) (c_hasDigger_13 (d + 3) x st) ?_
  rw [hX.1]
  refine w_if_ne rfl (fun h1 => ?_) (fun h1 => ?_)
  · replace h1 := pI_ne.mp h1
    obtain ⟨k, hk, rfl⟩ := nI_in2 (by omega) h1
    have hok : ok0 n (nI k) := nI_in3 (by omega) hk
    have ec := nI_clamp (show k < 2 ^ 31 by omega)
    refine w_blk 1 (pc' := 16) (ls' := [some (.ref 0), some (.int w), some (.int (nI k))]) (sk' := [.int w]) (st' := st) (fun _ h => h) ?_
    by_cases hw0 : w = 0
    · subst hw0
      refine w_tblIn (t := 56) rfl (by decide) (by decide) rfl rfl ?_
      refine w_blk 2 (pc' := 58) (ls' := [some (.ref 0), some (.int 0), some (.int (nI k))]) (sk' := [.int (nI k), .ref 0]) (st' := st) (fun _ h => h) ?_
      refine w_callV (As := [.ref 0, .int (nI k)]) (rest := []) rfl rfl rfl (Nat.le_of_ble_eq_true rfl) (Nat.le_of_ble_eq_true rfl) (by first | exact Or.inl ⟨rfl, rfl⟩ | exact Or.inr ⟨rfl, rfl⟩) (x_markPerson_13 (d + 2) n c v u yd k st hcw hX hB hN hU hk) ?_
      rw [show sp_mark n c v u 0 (nI k) = nI (c 0 k) from (if_pos hok).trans (by rw [ec]; rfl), show mk_t n 0 (nI k) = 1 from (if_pos hok).trans rfl] at hq
      exact w_iret rfl rfl rfl hq
    · by_cases hw1 : w = 1
      · subst hw1
        refine w_tblIn (t := 62) rfl (by decide) (by decide) rfl rfl ?_
        refine w_blk 2 (pc' := 64) (ls' := [some (.ref 0), some (.int 1), some (.int (nI k))]) (sk' := [.int (nI k), .ref 0]) (st' := st) (fun _ h => h) ?_
        refine w_callV (As := [.ref 0, .int (nI k)]) (rest := []) rfl rfl rfl (Nat.le_of_ble_eq_true rfl) (Nat.le_of_ble_eq_true rfl) (by first | exact Or.inl ⟨rfl, rfl⟩ | exact Or.inr ⟨rfl, rfl⟩) (x_markDigger_13 (d + 1) n c v u yd k st hcw hX hB hN hU hk) ?_
        rw [show sp_mark n c v u 1 (nI k) = nI (c 0 k + pop (u (6 + k)) 8) from (if_pos hok).trans (by rw [ec]; rfl), show mk_t n 1 (nI k) = 11 from (if_pos hok).trans rfl] at hq
        exact w_iret rfl rfl rfl hq
      · by_cases hw2 : w = 2
        · subst hw2
          refine w_tblIn (t := 68) rfl (by decide) (by decide) rfl rfl ?_
          refine w_blk 2 (pc' := 70) (ls' := [some (.ref 0), some (.int 2), some (.int (nI k))]) (sk' := [.int (nI k), .ref 0]) (st' := st) (fun _ h => h) ?_
          refine w_callV (As := [.ref 0, .int (nI k)]) (rest := []) rfl rfl rfl (Nat.le_of_ble_eq_true rfl) (Nat.le_of_ble_eq_true rfl) (by first | exact Or.inl ⟨rfl, rfl⟩ | exact Or.inr ⟨rfl, rfl⟩) (x_markSinger_13 (d + 1) n c v u yd k st hcw hX hB hN hU hk) ?_
          rw [show sp_mark n c v u 2 (nI k) = (nI (c 0 k) + v 0) from (if_pos hok).trans (by rw [ec]; rfl), show mk_t n 2 (nI k) = 101 from (if_pos hok).trans rfl] at hq
          exact w_iret rfl rfl rfl hq
        · by_cases hw3 : w = 3
          · subst hw3
            refine w_tblIn (t := 74) rfl (by decide) (by decide) rfl rfl ?_
            refine w_blk 2 (pc' := 76) (ls' := [some (.ref 0), some (.int 3), some (.int (nI k))]) (sk' := [.int (nI k), .ref 0]) (st' := st) (fun _ h => h) ?_
            refine w_callV (As := [.ref 0, .int (nI k)]) (rest := []) rfl rfl rfl (Nat.le_of_ble_eq_true rfl) (Nat.le_of_ble_eq_true rfl) (by first | exact Or.inl ⟨rfl, rfl⟩ | exact Or.inr ⟨rfl, rfl⟩) (x_markLeft_13 (d + 0) n c v u yd k st hcw hX hB hN hU hk) ?_
            rw [show sp_mark n c v u 3 (nI k) = nI ((c 0 k + pop (u (6 + k)) 8) * 2) from (if_pos hok).trans (by rw [ec]; rfl), show mk_t n 3 (nI k) = 1011 from (if_pos hok).trans rfl] at hq
            exact w_iret rfl rfl rfl hq
          · by_cases hw4 : w = 4
            · subst hw4
              refine w_tblIn (t := 80) rfl (by decide) (by decide) rfl rfl ?_
              refine w_blk 2 (pc' := 82) (ls' := [some (.ref 0), some (.int 4), some (.int (nI k))]) (sk' := [.int (nI k), .ref 0]) (st' := st) (fun _ h => h) ?_
              refine w_callV (As := [.ref 0, .int (nI k)]) (rest := []) rfl rfl rfl (Nat.le_of_ble_eq_true rfl) (Nat.le_of_ble_eq_true rfl) (by first | exact Or.inl ⟨rfl, rfl⟩ | exact Or.inr ⟨rfl, rfl⟩) (x_markProphet_13 (d + 0) n c v u yd k st hcw hX hB hN hU hk) ?_
              rw [show sp_mark n c v u 4 (nI k) = (nI (c 0 k) + v 0 - nI (pop (u 5) 8)) from (if_pos hok).trans (by rw [ec]; rfl), show mk_t n 4 (nI k) = 10101 from (if_pos hok).trans rfl] at hq
              exact w_iret rfl rfl rfl hq
            · by_cases hw5 : w = 5
              · subst hw5
                refine w_tblIn (t := 86) rfl (by decide) (by decide) rfl rfl ?_
                refine w_blk 2 (pc' := 88) (ls' := [some (.ref 0), some (.int 5), some (.int (nI k))]) (sk' := [.int (nI k), .ref 0]) (st' := st) (fun _ h => h) ?_
                refine w_callV (As := [.ref 0, .int (nI k)]) (rest := []) rfl rfl rfl (Nat.le_of_ble_eq_true rfl) (Nat.le_of_ble_eq_true rfl) (by first | exact Or.inl ⟨rfl, rfl⟩ | exact Or.inr ⟨rfl, rfl⟩) (x_markSlow_13 (d + 1) n c v u yd k st hcw hX hB hN hU hk) ?_
                rw [show sp_mark n c v u 5 (nI k) = (nI (c 0 k) - nI (c 1 k)) from (if_pos hok).trans (by rw [ec]; rfl), show mk_t n 5 (nI k) = 100001 from (if_pos hok).trans rfl] at hq
                exact w_iret rfl rfl rfl hq
              · refine w_tblOut (t := 92) rfl (tbl_out 5 (by decide) (by intro k hk; rcases (show k = 0 ∨ k = 1 ∨ k = 2 ∨ k = 3 ∨ k = 4 ∨ k = 5 by omega) with rfl | rfl | rfl | rfl | rfl | rfl <;> assumption)) rfl ?_
                refine w_blk 1 (pc' := 95) (ls' := [some (.ref 0), some (.int w), some (.int (nI k))]) (sk' := [.int (-1000000)]) (st' := st) (fun _ h => h) ?_
                rw [show sp_mark n c v u w (nI k) = -1000000 from (if_pos hok).trans (by rw [if_neg hw0, if_neg hw1, if_neg hw2, if_neg hw3, if_neg hw4, if_neg hw5]), show mk_t n w (nI k) = 0 from (if_pos hok).trans (by rw [if_neg hw0, if_neg hw1, if_neg hw2, if_neg hw3, if_neg hw4, if_neg hw5]), tU_0] at hq
                exact w_iret rfl rfl rfl hq
  · replace h1 := pI_eq0.mp (Decidable.not_not.mp h1)
    refine w_blk 1 (pc' := 14) (ls' := [some (.ref 0), some (.int w), some (.int x)]) (sk' := [.int (-1000000)]) (st' := st) (fun _ h => h) ?_
    rw [show sp_mark n c v u w x = -1000000 from if_neg h1, show mk_t n w x = 0 from if_neg h1, tU_0] at hq
    exact w_iret rfl rfl rfl hq
set_option maxRecDepth 20000 in
/-- trace -/
theorem x_trace (d : Nat) (st : mSt) : mMC mT (d + 1) 113 [.ref 0] st (some (.long (st.2 0 12))) st := by
  refine mI_X9_trace (d := d + 0) (Nat.le_of_ble_eq_true rfl) (fun Q hq => ?_)
  show mW (mMC mT (d + 0)) (0, fun _ => 0) (mAtL P_X9_trace) (some .long) Q 0 [some (.ref 0)] [] st
  refine w_blk 2 (pc' := 4) (ls' := [some (.ref 0)]) (sk' := [.long (st.2 0 12)]) (st' := st) (fun _ h => h) ?_
  exact w_lret rfl rfl hq
