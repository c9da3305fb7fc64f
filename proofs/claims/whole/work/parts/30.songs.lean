/-! SONGS: both sides, and that they answer alike -/
def sgX (b q p : Nat) (t : Nat) : Nat → Int32
  | 0 => -9
  | k + 1 => if (t - b) % q = 0 then nI t else sgX b q p (t + p) k
def sgM (a p b q : Nat) (t : Nat) : Nat → Int32
  | 0 => -9
  | k + 1 => if (t - a) % p = 0 ∧ (t - b) % q = 0 then nI t else sgM a p b q (t + 1) k
def sgF (a b p : Nat) : Nat := max a b + (p - (max a b - a) % p) % p
abbrev okS (p a q b : Int32) : Prop := (1 ≤ p ∧ p ≤ 99) ∧ (0 ≤ a ∧ a ≤ 999) ∧ (1 ≤ q ∧ q ≤ 99) ∧ (0 ≤ b ∧ b ≤ 999)
def sp_songX (p a q b : Int32) : Int32 := if okS p a q b then sgX b.toNatClampNeg q.toNatClampNeg p.toNatClampNeg (sgF a.toNatClampNeg b.toNatClampNeg p.toNatClampNeg) q.toNatClampNeg else -1
def sp_songM (p a q b : Int32) : Int32 := if okS p a q b then sgM a.toNatClampNeg p.toNatClampNeg b.toNatClampNeg q.toNatClampNeg (max a.toNatClampNeg b.toNatClampNeg) (p.toNatClampNeg * q.toNatClampNeg + 1) else -1
theorem sgX_spec {b q p : Nat} : ∀ k t, (∃ i, i < k ∧ (t + p * i - b) % q = 0 ∧ (∀ j, j < i → (t + p * j - b) % q ≠ 0) ∧ sgX b q p t k = nI (t + p * i)) ∨ ((∀ i, i < k → (t + p * i - b) % q ≠ 0) ∧ sgX b q p t k = -9) := by
  intro k
  induction k with
  | zero => exact fun t => Or.inr ⟨fun i hi => absurd hi (Nat.not_lt_zero _), rfl⟩
  | succ k ih =>
    intro t
    by_cases h : (t - b) % q = 0
    · refine Or.inl ⟨0, by omega, by rw [Nat.mul_zero]; exact h, fun j hj => absurd hj (Nat.not_lt_zero _), ?_⟩
      rw [Nat.mul_zero]
      exact if_pos h
    · have e : sgX b q p t (k + 1) = sgX b q p (t + p) k := if_neg h
      have e2 : ∀ i, t + p * (i + 1) = t + p + p * i := fun i => by rw [Nat.mul_add]; omega
      rcases ih (t + p) with ⟨i, h1, h2, h3, h4⟩ | ⟨h1, h2⟩
      · refine Or.inl ⟨i + 1, by omega, by rw [e2]; exact h2, fun j hj => ?_, by rw [e, e2]; exact h4⟩
        cases j with
        | zero => rw [Nat.mul_zero]; exact h
        | succ j => rw [e2]; exact h3 j (by omega)
      · refine Or.inr ⟨fun j hj => ?_, by rw [e]; exact h2⟩
        cases j with
        | zero => rw [Nat.mul_zero]; exact h
        | succ j => rw [e2]; exact h1 j (by omega)
theorem sgM_spec {a p b q : Nat} : ∀ k t, (∃ i, i < k ∧ ((t + i - a) % p = 0 ∧ (t + i - b) % q = 0) ∧ (∀ j, j < i → ¬ ((t + j - a) % p = 0 ∧ (t + j - b) % q = 0)) ∧ sgM a p b q t k = nI (t + i)) ∨ ((∀ i, i < k → ¬ ((t + i - a) % p = 0 ∧ (t + i - b) % q = 0)) ∧ sgM a p b q t k = -9) := by
  intro k
  induction k with
  | zero => exact fun t => Or.inr ⟨fun i hi => absurd hi (Nat.not_lt_zero _), rfl⟩
  | succ k ih =>
    intro t
    by_cases h : (t - a) % p = 0 ∧ (t - b) % q = 0
    · exact Or.inl ⟨0, by omega, h, fun j hj => absurd hj (Nat.not_lt_zero _), if_pos h⟩
    · have e : sgM a p b q t (k + 1) = sgM a p b q (t + 1) k := if_neg h
      have e2 : ∀ i, t + (i + 1) = t + 1 + i := fun i => by omega
      rcases ih (t + 1) with ⟨i, h1, h2, h3, h4⟩ | ⟨h1, h2⟩
      · refine Or.inl ⟨i + 1, by omega, by rw [e2]; exact h2, fun j hj => ?_, by rw [e, e2 i]; exact h4⟩
        cases j with
        | zero => exact h
        | succ j => rw [e2]; exact h3 j (by omega)
      · refine Or.inr ⟨fun j hj => ?_, by rw [e]; exact h2⟩
        cases j with
        | zero => exact h
        | succ j => rw [e2]; exact h1 j (by omega)
/-- the first beat of the first song from F on: all its beats from there are F' + p i -/
theorem sgF_dvd {a F p : Nat} (ha : a ≤ F) (hp : 0 < p) : p ∣ (F + (p - (F - a) % p) % p - a) := by
  have h1 := Nat.div_add_mod (F - a) p
  have h2 := Nat.mod_lt (F - a) hp
  by_cases h0 : (F - a) % p = 0
  · rw [h0, Nat.sub_zero, Nat.mod_self, Nat.add_zero]
    exact Nat.dvd_of_mod_eq_zero h0
  · rw [Nat.mod_eq_of_lt (show p - (F - a) % p < p by omega)]
    exact ⟨(F - a) / p + 1, by rw [Nat.mul_add, Nat.mul_one]; omega⟩
theorem sgF_least {a F p t : Nat} (ha : a ≤ F) (hp : 0 < p) (ht : F ≤ t) (hd : p ∣ (t - a)) : F + (p - (F - a) % p) % p ≤ t := by
  have h1 := Nat.div_add_mod (F - a) p
  have h2 := Nat.mod_lt (F - a) hp
  by_cases h0 : (F - a) % p = 0
  · rw [h0, Nat.sub_zero, Nat.mod_self, Nat.add_zero]
    exact ht
  · rw [Nat.mod_eq_of_lt (show p - (F - a) % p < p by omega)]
    obtain ⟨m, hm⟩ := hd
    have h3 : (F - a) / p < m := by
      apply Nat.lt_of_not_le
      intro hle
      have := Nat.mul_le_mul_left p hle
      omega
    have h4 := Nat.mul_le_mul_left p (Nat.succ_le_of_lt h3)
    rw [Nat.succ_eq_add_one, Nat.mul_add, Nat.mul_one] at h4
    omega
theorem song_eq {a b p q : Nat} (hp : 0 < p) (hq : 0 < q) : sgX b q p (sgF a b p) q = sgM a p b q (max a b) (p * q + 1) := by
  have hFa : a ≤ max a b := by omega
  have hFb : b ≤ max a b := by omega
  generalize hF : max a b = F at hFa hFb
  have hT : sgF a b p = F + (p - (F - a) % p) % p := by unfold sgF; rw [hF]
  rw [hT]
  have hd := sgF_dvd hFa hp
  have hl := fun t => sgF_least (t := t) hFa hp
  have hlt : (p - (F - a) % p) % p < p := Nat.mod_lt _ hp
  generalize hT0 : F + (p - (F - a) % p) % p = T at hd hl
  have hFT : F ≤ T := by omega
  have hTp : T < F + p := by omega
  -- what stands in the one row stands in the other
  have fwd : ∀ i, (T + p * i - a) % p = 0 := fun i => by
    rw [show T + p * i - a = (T - a) + p * i by omega, Nat.add_mul_mod_self_left]
    exact Nat.mod_eq_zero_of_dvd hd
  have bwd : ∀ t, F ≤ t → (t - a) % p = 0 → ∃ i, t = T + p * i := fun t ht h => by
    have h1 := hl t ht (Nat.dvd_of_mod_eq_zero h)
    obtain ⟨m, hm⟩ := Nat.dvd_of_mod_eq_zero h
    obtain ⟨r, hr⟩ := hd
    have h2 : r ≤ m := by
      apply Nat.le_of_not_lt
      intro hlt2
      have := Nat.mul_le_mul_left p (Nat.succ_le_of_lt hlt2)
      rw [Nat.succ_eq_add_one, Nat.mul_add, Nat.mul_one] at this
      omega
    refine ⟨m - r, ?_⟩
    rw [Nat.mul_sub]
    have := Nat.mul_le_mul_left p h2
    omega
  have inj : ∀ i j, T + p * i < T + p * j → i < j := fun i j h => by
    apply Nat.lt_of_not_le
    intro hle
    have := Nat.mul_le_mul_left p hle
    omega
  -- a common beat has one within the first q of the row
  have back : ∀ i, (T + p * i - b) % q = 0 → (T + p * (i % q) - b) % q = 0 := fun i h => by
    have e := Nat.div_add_mod i q
    have e3 : p * i = p * (i % q) + q * (p * (i / q)) := by
      conv => lhs; rw [← e]
      rw [Nat.mul_add, Nat.add_comm, Nat.mul_left_comm]
    have e2 : T + p * i - b = (T + p * (i % q) - b) + q * (p * (i / q)) := by omega
    rw [e2, Nat.add_mul_mod_self_left] at h
    exact h
  rcases sgX_spec (b := b) (q := q) (p := p) q T with ⟨i, h1, h2, h3, h4⟩ | ⟨h1, h2⟩
  · rw [h4]
    have hle : p * i + p ≤ p * q := by
      have := Nat.mul_le_mul_left p (show i + 1 ≤ q by omega)
      rw [Nat.mul_add, Nat.mul_one] at this
      exact this
    rcases sgM_spec (a := a) (p := p) (b := b) (q := q) (p * q + 1) F with ⟨k, g1, g2, g3, g4⟩ | ⟨g1, -⟩
    · rw [g4]
      obtain ⟨j, hj⟩ := bwd (F + k) (by omega) g2.1
      have hji : ¬ j < i := fun hlt2 => h3 j hlt2 (by rw [← hj]; exact g2.2)
      have hij : ¬ T + p * i < F + k := fun hlt2 => by
        refine g3 (T + p * i - F) (by omega) ?_
        rw [show F + (T + p * i - F) = T + p * i by omega]
        exact ⟨fwd i, h2⟩
      have h5 : T + p * i ≤ T + p * j := by
        have := Nat.mul_le_mul_left p (show i ≤ j by omega)
        omega
      exact congrArg nI (by omega)
    · refine absurd ?_ (g1 (T + p * i - F) (by omega))
      rw [show F + (T + p * i - F) = T + p * i by omega]
      exact ⟨fwd i, h2⟩
  · rw [h2]
    rcases sgM_spec (a := a) (p := p) (b := b) (q := q) (p * q + 1) F with ⟨k, g1, g2, g3, g4⟩ | ⟨-, g2⟩
    · obtain ⟨j, hj⟩ := bwd (F + k) (by omega) g2.1
      refine absurd (back j (by rw [← hj]; exact g2.2)) (h1 (j % q) (Nat.mod_lt _ hq))
    · exact g2.symm
theorem sp_song_eq (p a q b : Int32) : sp_songX p a q b = sp_songM p a q b := by
  unfold sp_songX sp_songM
  by_cases h : okS p a q b
  · rw [if_pos h, if_pos h]
    obtain ⟨p', hp1, hp2, rfl⟩ := nI_within (a := 1) (b := 99) h.1 (by decide) (by decide)
    obtain ⟨q', hq1, hq2, rfl⟩ := nI_within (a := 1) (b := 99) h.2.2.1 (by decide) (by decide)
    rw [nI_clamp (show p' < 2 ^ 31 by omega), nI_clamp (show q' < 2 ^ 31 by omega)]
    exact song_eq (by omega) (by omega)
  · rw [if_neg h, if_neg h]
/-! floorMod -/
theorem xor_neg {x y : Int32} (hx : x.toInt < 0) (hy : 0 ≤ y.toInt) : x ^^^ y < 0 := by
  have e : (x ^^^ y).toBitVec.msb = true := by
    rw [Int32.toBitVec_xor, BitVec.msb_xor, BitVec.msb_eq_toInt, BitVec.msb_eq_toInt]
    have h1 : decide (x.toBitVec.toInt < 0) = true := decide_eq_true hx
    have h2 : decide (y.toBitVec.toInt < 0) = false := decide_eq_false (show ¬ y.toInt < 0 by omega)
    rw [h1, h2]
    rfl
  rw [BitVec.msb_eq_toInt] at e
  rw [Int32.lt_iff_toInt_lt]
  exact of_decide_eq_true e
theorem fm_rem {x : Int32} {w p : Nat} (hx : x.toInt = -(w : Int)) (hw : w < 2 ^ 30) (hp : 0 < p) (hp2 : p < 2 ^ 30) : x - x / nI p * nI p = 0 - nI (w % p) := by
  have hm := Nat.mod_lt w hp
  have hdm := Nat.div_add_mod w p
  have hdl : w / p ≤ w := Nat.div_le_self _ _
  have e1 : (x / nI p).toInt = -((w / p : Nat) : Int) := by
    rw [Int32.toInt_div, hx, nI_toInt (by omega), Int.neg_tdiv, ← Int.ofNat_tdiv]
    generalize w / p = Q at hdl ⊢
    exact Int.bmod_eq_of_le (by omega) (by omega)
  have hmle : p * (w / p) ≤ w := by omega
  have e2 : (x / nI p * nI p).toInt = -((p * (w / p) : Nat) : Int) := by
    rw [Int32.toInt_mul, e1, nI_toInt (by omega), Int.neg_mul, ← Int.natCast_mul, Nat.mul_comm (w / p) p]
    exact Int.bmod_eq_of_le (by omega) (by omega)
  apply Int32.toInt_inj.mp
  rw [Int32.toInt_sub, Int32.toInt_sub, e2, hx, nI_toInt (by omega)]
  rw [show (0 : Int32).toInt = 0 from rfl]
  exact congrArg (fun z => Int.bmod z _) (by omega)
theorem fm_val {w p : Nat} (hp : 0 < p) : (p - w % p) % p = if w % p = 0 then 0 else p - w % p := by
  have hm := Nat.mod_lt w hp
  split
  · rename_i h
    rw [h, Nat.sub_zero, Nat.mod_self]
  · exact Nat.mod_eq_of_lt (by omega)
set_option maxRecDepth 20000 in
/-- floorMod(x, p), x = -w -/
theorem c_floorMod (d : Nat) (x : Int32) (w p : Nat) (st : mSt) (hx : x.toInt = -(w : Int)) (hw : w < 2 ^ 30) (hp : 0 < p) (hp2 : p < 2 ^ 30) : mMC mT (d + 1) 2 [.int x, .int (nI p)] st (some (.int (nI ((p - w % p) % p)))) st := by
  refine mI_J9_floorMod_7cf53 (d := d + 0) (Nat.le_of_ble_eq_true rfl) (fun Q hq => ?_)
  show mW (mMC mT (d + 0)) (0, fun _ => 0) (mAtL P_J9_floorMod_7cf53) (some .int) Q 0 [some (.int x), some (.int (nI p)), none] [] st
  have hm := Nat.mod_lt w hp
  have hv := fm_val (w := w) hp
  refine w_blk 2 (pc' := 2) (ls' := [some (.int x), some (.int (nI p)), none]) (sk' := [.int (nI p), .int x]) (st' := st) (fun _ h => h) ?_
  refine w_rem rfl (nI_ne0 hp (by omega)) ?_
  rw [fm_rem hx hw hp hp2]
  refine w_blk 4 (pc' := 7) (ls' := [some (.int x), some (.int (nI p)), some (.int (0 - nI (w % p)))]) (sk' := [.int (x ^^^ (nI p))]) (st' := st) (fun _ h => h) ?_
  refine w_if_ge rfl (fun h1 => ?_) (fun h1 => ?_)
  · refine w_blk 1 (pc' := 19) (ls' := [some (.int x), some (.int (nI p)), some (.int (0 - nI (w % p)))]) (sk' := [.int (0 - nI (w % p))]) (st' := st) (fun _ h => h) ?_
    have hw0 : w = 0 := by
      apply Nat.eq_zero_of_not_pos
      intro h0
      have := xor_neg (x := x) (y := nI p) (by omega) (by rw [nI_toInt (by omega)]; omega)
      rw [Int32.lt_iff_toInt_lt] at this
      rw [Int32.le_iff_toInt_le] at h1
      omega
    rw [hw0, Nat.zero_mod, Nat.sub_zero, Nat.mod_self] at hq
    rw [hw0, Nat.zero_mod]
    exact w_iret rfl rfl rfl hq
  · refine w_blk 1 (pc' := 11) (ls' := [some (.int x), some (.int (nI p)), some (.int (0 - nI (w % p)))]) (sk' := [.int (0 - nI (w % p))]) (st' := st) (fun _ h => h) ?_
    refine w_if_eq rfl (fun h2 => ?_) (fun h2 => ?_)
    · refine w_blk 1 (pc' := 19) (ls' := [some (.int x), some (.int (nI p)), some (.int (0 - nI (w % p)))]) (sk' := [.int (0 - nI (w % p))]) (st' := st) (fun _ h => h) ?_
      have e0 : (0 - nI (w % p) : Int32).toInt = -((w % p : Nat) : Int) := by
        rw [show (0 : Int32) = nI 0 from rfl, pk_sub_toInt (by decide) (by omega)]
        omega
      rw [h2] at e0
      have hz : w % p = 0 := by have e1 : (0 : Int32).toInt = 0 := rfl; omega
      rw [hv, if_pos hz] at hq
      rw [h2]
      exact w_iret rfl rfl rfl hq
    · refine w_blk 3 (pc' := 17) (ls' := [some (.int x), some (.int (nI p)), some (.int (0 - nI (w % p)))]) (sk' := [.int ((0 - nI (w % p)) + (nI p))]) (st' := st) (fun _ h => h) ?_
      have hz : ¬ w % p = 0 := fun e => h2 (by rw [e]; rfl)
      rw [hv, if_neg hz] at hq
      rw [show (0 - nI (w % p) + nI p : Int32) = nI (p - w % p) from by
        rw [← pk_sub (by omega), Int32.sub_eq_add_neg, Int32.zero_add, Int32.add_comm, ← Int32.sub_eq_add_neg]]
      exact w_iret rfl rfl rfl hq
set_option maxRecDepth 20000 in
/-- songs -/
theorem x_songs (d : Nat) (p a q b : Int32) (st : mSt) : mMC mT (d + 2) 102 [.ref 0, .int p, .int a, .int q, .int b] st (some (.int (sp_songX p a q b))) st := by
  refine mI_X9_songs (d := d + 1) (Nat.le_of_ble_eq_true rfl) (fun Q hq => ?_)
  show mW (mMC mT (d + 1)) (0, fun _ => 0) (mAtL P_X9_songs) (some .int) Q 0 [some (.ref 0), some (.int p), some (.int a), some (.int q), some (.int b), none, none, none] [] st
  refine w_blk 3 (pc' := 4) (ls' := [some (.ref 0), some (.int p), some (.int a), some (.int q), some (.int b), none, none, none]) (sk' := [.int 99, .int 1, .int p]) (st' := st) (fun _ h => h) ?_
  refine w_callS (As := [.int p, .int 1, .int 99]) (rest := []) rfl rfl rfl (Nat.le_of_ble_eq_true rfl) (Nat.le_of_ble_eq_true rfl) (c_within (d + 0) p 1 99 st) ?_
  refine w_if_eq rfl (fun h1 => ?_) (fun h1 => ?_)
  · replace h1 := pI_eq0.mp h1
    refine w_blk 1 (pc' := 44) (ls' := [some (.ref 0), some (.int p), some (.int a), some (.int q), some (.int b), none, none, none]) (sk' := [.int (-1)]) (st' := st) (fun _ h => h) ?_
    have hno : ¬ okS p a q b := fun hh => by first | exact h1 hh.1 | exact h2 hh.2.1 | exact h3 hh.2.2.1 | exact h4 hh.2.2.2
    rw [show sp_songX p a q b = -1 from if_neg hno] at hq
    exact w_iret rfl rfl rfl hq
  · replace h1 := pI_ne.mp h1
    refine w_blk 3 (pc' := 15) (ls' := [some (.ref 0), some (.int p), some (.int a), some (.int q), some (.int b), none, none, none]) (sk' := [.int 999, .int 0, .int a]) (st' := st) (fun _ h => h) ?_
    refine w_callS (As := [.int a, .int 0, .int 999]) (rest := []) rfl rfl rfl (Nat.le_of_ble_eq_true rfl) (Nat.le_of_ble_eq_true rfl) (c_within (d + 0) a 0 999 st) ?_
    refine w_if_eq rfl (fun h2 => ?_) (fun h2 => ?_)
    · replace h2 := pI_eq0.mp h2
      refine w_blk 1 (pc' := 44) (ls' := [some (.ref 0), some (.int p), some (.int a), some (.int q), some (.int b), none, none, none]) (sk' := [.int (-1)]) (st' := st) (fun _ h => h) ?_
      have hno : ¬ okS p a q b := fun hh => by first | exact h1 hh.1 | exact h2 hh.2.1 | exact h3 hh.2.2.1 | exact h4 hh.2.2.2
      rw [show sp_songX p a q b = -1 from if_neg hno] at hq
      exact w_iret rfl rfl rfl hq
    · replace h2 := pI_ne.mp h2
      refine w_blk 3 (pc' := 25) (ls' := [some (.ref 0), some (.int p), some (.int a), some (.int q), some (.int b), none, none, none]) (sk' := [.int 99, .int 1, .int q]) (st' := st) (fun _ h => h) ?_
      refine w_callS (As := [.int q, .int 1, .int 99]) (rest := []) rfl rfl rfl (Nat.le_of_ble_eq_true rfl) (Nat.le_of_ble_eq_true rfl) (c_within (d + 0) q 1 99 st) ?_
      refine w_if_eq rfl (fun h3 => ?_) (fun h3 => ?_)
      · replace h3 := pI_eq0.mp h3
        refine w_blk 1 (pc' := 44) (ls' := [some (.ref 0), some (.int p), some (.int a), some (.int q), some (.int b), none, none, none]) (sk' := [.int (-1)]) (st' := st) (fun _ h => h) ?_
        have hno : ¬ okS p a q b := fun hh => by first | exact h1 hh.1 | exact h2 hh.2.1 | exact h3 hh.2.2.1 | exact h4 hh.2.2.2
        rw [show sp_songX p a q b = -1 from if_neg hno] at hq
        exact w_iret rfl rfl rfl hq
      · replace h3 := pI_ne.mp h3
        refine w_blk 3 (pc' := 37) (ls' := [some (.ref 0), some (.int p), some (.int a), some (.int q), some (.int b), none, none, none]) (sk' := [.int 999, .int 0, .int b]) (st' := st) (fun _ h => h) ?_
        refine w_callS (As := [.int b, .int 0, .int 999]) (rest := []) rfl rfl rfl (Nat.le_of_ble_eq_true rfl) (Nat.le_of_ble_eq_true rfl) (c_within (d + 0) b 0 999 st) ?_
        refine w_if_ne rfl (fun h4 => ?_) (fun h4 => ?_)
        · replace h4 := pI_ne.mp h4
          have hok : okS p a q b := ⟨h1, h2, h3, h4⟩
          obtain ⟨p', hp1, hp2, ep⟩ := nI_within (a := 1) (b := 99) h1 (by decide) (by decide)
          obtain ⟨a', ha1, ha2, ea⟩ := nI_within (a := 0) (b := 999) h2 (by decide) (by decide)
          obtain ⟨q', hq1, hq2, eq⟩ := nI_within (a := 1) (b := 99) h3 (by decide) (by decide)
          obtain ⟨b', hb1, hb2, eb⟩ := nI_within (a := 0) (b := 999) h4 (by decide) (by decide)
          subst ep ea eq eb
          rw [show sp_songX (nI p') (nI a') (nI q') (nI b') = sgX b' q' p' (sgF a' b' p') q' from (if_pos hok).trans (by rw [nI_clamp (show p' < 2 ^ 31 by omega), nI_clamp (show a' < 2 ^ 31 by omega), nI_clamp (show q' < 2 ^ 31 by omega), nI_clamp (show b' < 2 ^ 31 by omega)])] at hq
          clear hok h1 h2 h3 h4
          refine w_blk 2 (pc' := 48) (ls' := [some (.ref 0), some (.int (nI p')), some (.int (nI a')), some (.int (nI q')), some (.int (nI b')), none, none, none]) (sk' := [.int (nI b'), .int (nI a')]) (st' := st) (fun _ h => h) ?_
          refine w_callS (As := [.int (nI a'), .int (nI b')]) (rest := []) rfl rfl rfl (Nat.le_of_ble_eq_true rfl) (Nat.le_of_ble_eq_true rfl) (c_maxK (d + 0) a' b' st (by omega) (by omega)) ?_
          refine w_blk 6 (pc' := 60) (ls' := [some (.ref 0), some (.int (nI p')), some (.int (nI a')), some (.int (nI q')), some (.int (nI b')), some (.int (nI (max a' b'))), none, none]) (sk' := [.int (nI p'), .int ((nI a') - (nI (max a' b'))), .int (nI (max a' b'))]) (st' := st) (fun _ h => h) ?_
          have hneg : (nI a' - nI (max a' b')).toInt = -((max a' b' - a' : Nat) : Int) := by rw [pk_sub_toInt (by omega) (by omega)]; omega
          have hml : (p' - (max a' b' - a') % p') % p' < p' := Nat.mod_lt _ (by omega)
          refine w_callS (As := [.int ((nI a') - (nI (max a' b'))), .int (nI p')]) (rest := [.int (nI (max a' b'))]) rfl rfl rfl (Nat.le_of_ble_eq_true rfl) (Nat.le_of_ble_eq_true rfl) (c_floorMod (d + 0) _ (max a' b' - a') p' st hneg (by omega) (by omega) (by omega)) ?_
          refine w_blk 1 (pc' := 64) (ls' := [some (.ref 0), some (.int (nI p')), some (.int (nI a')), some (.int (nI q')), some (.int (nI b')), some (.int (nI (max a' b'))), none, none]) (sk' := [.int ((nI (max a' b')) + (nI ((p' - (max a' b' - a') % p') % p')))]) (st' := st) (fun _ h => h) ?_
          rw [show ((nI (max a' b')) + (nI ((p' - (max a' b' - a') % p') % p'))) = nI ((max a' b') + ((p' - (max a' b' - a') % p') % p')) from nI_add (max a' b') ((p' - (max a' b' - a') % p') % p')]
          refine w_blk 3 (pc' := 69) (ls' := [some (.ref 0), some (.int (nI p')), some (.int (nI a')), some (.int (nI q')), some (.int (nI b')), some (.int (nI (max a' b'))), some (.int (nI ((max a' b') + ((p' - (max a' b' - a') % p') % p')))), some (.int 0)]) (sk' := []) (st' := st) (fun _ h => h) ?_
          rw [show max a' b' + (p' - (max a' b' - a') % p') % p' = sgF a' b' p' from rfl]
          suffices key : ∀ k i t, i + k = q' → max a' b' ≤ t → t ≤ 1100 + 99 * i → Q (some (.int (sgX b' q' p' t k))) st → mW (mMC mT (d + 1)) (0, fun _ => 0) (mAtL P_X9_songs) (some .int) Q 69 [some (.ref 0), some (.int (nI p')), some (.int (nI a')), some (.int (nI q')), some (.int (nI b')), some (.int (nI (max a' b'))), some (.int (nI t)), some (.int (nI i))] [] st from key q' 0 (sgF a' b' p') (by omega) (by unfold sgF; omega) (by unfold sgF; omega) hq
          intro k
          induction k with
          | zero =>
            intro i t hi h1 h2 hq2
            refine w_blk 2 (pc' := 72) (ls' := [some (.ref 0), some (.int (nI p')), some (.int (nI a')), some (.int (nI q')), some (.int (nI b')), some (.int (nI (max a' b'))), some (.int (nI t)), some (.int (nI i))]) (sk' := [.int (nI q'), .int (nI i)]) (st' := st) (fun _ h => h) ?_
            refine w_cmp_ge rfl (fun _ => ?_) (fun hno => absurd (by rw [show i = q' by omega]; exact Int32.le_refl _) hno)
            refine w_blk 1 (pc' := 104) (ls' := [some (.ref 0), some (.int (nI p')), some (.int (nI a')), some (.int (nI q')), some (.int (nI b')), some (.int (nI (max a' b'))), some (.int (nI t)), some (.int (nI i))]) (sk' := [.int (-9)]) (st' := st) (fun _ h => h) ?_
            exact w_iret rfl rfl rfl hq2
          | succ k ih =>
            intro i t hi h1 h2 hq2
            refine w_blk 2 (pc' := 72) (ls' := [some (.ref 0), some (.int (nI p')), some (.int (nI a')), some (.int (nI q')), some (.int (nI b')), some (.int (nI (max a' b'))), some (.int (nI t)), some (.int (nI i))]) (sk' := [.int (nI q'), .int (nI i)]) (st' := st) (fun _ h => h) ?_
            refine w_cmp_ge rfl (fun hno => absurd hno (nI_ge (a := i) (b := q') (by omega) (by omega))) (fun _ => ?_)
            refine w_blk 3 (pc' := 80) (ls' := [some (.ref 0), some (.int (nI p')), some (.int (nI a')), some (.int (nI q')), some (.int (nI b')), some (.int (nI (max a' b'))), some (.int (nI t)), some (.int (nI i))]) (sk' := [.int ((nI t) - (nI b'))]) (st' := st) (fun _ h => h) ?_
            rw [show ((nI t) - (nI b')) = nI (t - b') from pk_sub (a := t) (b := b') (by omega)]
            refine w_blk 1 (pc' := 81) (ls' := [some (.ref 0), some (.int (nI p')), some (.int (nI a')), some (.int (nI q')), some (.int (nI b')), some (.int (nI (max a' b'))), some (.int (nI t)), some (.int (nI i))]) (sk' := [.int (nI q'), .int (nI (t - b'))]) (st' := st) (fun _ h => h) ?_
            refine w_callS (As := [.int (nI (t - b')), .int (nI q')]) (rest := []) rfl rfl rfl (Nat.le_of_ble_eq_true rfl) (Nat.le_of_ble_eq_true rfl) (c_remK (d + 0) (t - b') q' st (by omega) (by omega) (by omega)) ?_
            have hmq : (t - b') % q' < q' := Nat.mod_lt _ (by omega)
            refine w_if_ne rfl (fun h3 => ?_) (fun h3 => ?_)
            · replace h3 : ¬ ((t - b') % q' = 0) := fun hh => h3 ((nI_eq (a := ((t - b') % q')) (b := 0) (by omega) (by omega)).mpr hh)
              refine w_blk 3 (pc' := 94) (ls' := [some (.ref 0), some (.int (nI p')), some (.int (nI a')), some (.int (nI q')), some (.int (nI b')), some (.int (nI (max a' b'))), some (.int (nI t)), some (.int (nI i))]) (sk' := [.int ((nI t) + (nI p'))]) (st' := st) (fun _ h => h) ?_
              rw [show ((nI t) + (nI p')) = nI (t + p') from nI_add t p']
              refine w_blk 2 (pc' := 99) (ls' := [some (.ref 0), some (.int (nI p')), some (.int (nI a')), some (.int (nI q')), some (.int (nI b')), some (.int (nI (max a' b'))), some (.int (nI (t + p'))), some (.int ((nI i) + 1))]) (sk' := []) (st' := st) (fun _ h => h) ?_
              rw [show ((nI i) + 1) = nI (i + 1) from nI_add i 1]
              refine w_blk 1 (pc' := 69) (ls' := [some (.ref 0), some (.int (nI p')), some (.int (nI a')), some (.int (nI q')), some (.int (nI b')), some (.int (nI (max a' b'))), some (.int (nI (t + p'))), some (.int (nI (i + 1)))]) (sk' := []) (st' := st) (fun _ h => h) ?_
              exact ih (i + 1) (t + p') (by omega) (by omega) (by omega) (by rw [show sgX b' q' p' t (k + 1) = sgX b' q' p' (t + p') k from if_neg h3] at hq2; exact hq2)
            · replace h3 : (t - b') % q' = 0 := (nI_eq (a := ((t - b') % q')) (b := 0) (by omega) (by omega)).mp (Decidable.not_not.mp h3)
              refine w_blk 1 (pc' := 89) (ls' := [some (.ref 0), some (.int (nI p')), some (.int (nI a')), some (.int (nI q')), some (.int (nI b')), some (.int (nI (max a' b'))), some (.int (nI t)), some (.int (nI i))]) (sk' := [.int (nI t)]) (st' := st) (fun _ h => h) ?_
              exact w_iret rfl rfl rfl (by rw [show sgX b' q' p' t (k + 1) = nI t from if_pos h3] at hq2; exact hq2)
        · replace h4 := pI_eq0.mp (Decidable.not_not.mp h4)
          refine w_blk 1 (pc' := 44) (ls' := [some (.ref 0), some (.int p), some (.int a), some (.int q), some (.int b), none, none, none]) (sk' := [.int (-1)]) (st' := st) (fun _ h => h) ?_
          have hno : ¬ okS p a q b := fun hh => by first | exact h1 hh.1 | exact h2 hh.2.1 | exact h3 hh.2.2.1 | exact h4 hh.2.2.2
          rw [show sp_songX p a q b = -1 from if_neg hno] at hq
          exact w_iret rfl rfl rfl hq
set_option maxRecDepth 20000 in
/-- songs -/
theorem m_songs (d : Nat) (p a q b : Int32) (st : mSt) : mMC mT (d + 2) 174 [.ref 53, .int p, .int a, .int q, .int b] st (some (.int (sp_songM p a q b))) st := by
  refine mI_X10_songs (d := d + 1) (Nat.le_of_ble_eq_true rfl) (fun Q hq => ?_)
  show mW (mMC mT (d + 1)) (0, fun _ => 0) (mAtL P_X10_songs) (some .int) Q 0 [some (.ref 53), some (.int p), some (.int a), some (.int q), some (.int b), none, none] [] st
  refine w_blk 3 (pc' := 4) (ls' := [some (.ref 53), some (.int p), some (.int a), some (.int q), some (.int b), none, none]) (sk' := [.int 99, .int 1, .int p]) (st' := st) (fun _ h => h) ?_
  refine w_callS (As := [.int p, .int 1, .int 99]) (rest := []) rfl rfl rfl (Nat.le_of_ble_eq_true rfl) (Nat.le_of_ble_eq_true rfl) (m_in (d + 0) p 1 99 st) ?_
  refine w_if_eq rfl (fun h1 => ?_) (fun h1 => ?_)
  · replace h1 := pI_eq0.mp h1
    refine w_blk 1 (pc' := 44) (ls' := [some (.ref 53), some (.int p), some (.int a), some (.int q), some (.int b), none, none]) (sk' := [.int (-1)]) (st' := st) (fun _ h => h) ?_
    have hno : ¬ okS p a q b := fun hh => by first | exact h1 hh.1 | exact h2 hh.2.2.1 | exact h3 hh.2.1 | exact h4 hh.2.2.2
    rw [show sp_songM p a q b = -1 from if_neg hno] at hq
    exact w_iret rfl rfl rfl hq
  · replace h1 := pI_ne.mp h1
    refine w_blk 3 (pc' := 14) (ls' := [some (.ref 53), some (.int p), some (.int a), some (.int q), some (.int b), none, none]) (sk' := [.int 99, .int 1, .int q]) (st' := st) (fun _ h => h) ?_
    refine w_callS (As := [.int q, .int 1, .int 99]) (rest := []) rfl rfl rfl (Nat.le_of_ble_eq_true rfl) (Nat.le_of_ble_eq_true rfl) (m_in (d + 0) q 1 99 st) ?_
    refine w_if_eq rfl (fun h2 => ?_) (fun h2 => ?_)
    · replace h2 := pI_eq0.mp h2
      refine w_blk 1 (pc' := 44) (ls' := [some (.ref 53), some (.int p), some (.int a), some (.int q), some (.int b), none, none]) (sk' := [.int (-1)]) (st' := st) (fun _ h => h) ?_
      have hno : ¬ okS p a q b := fun hh => by first | exact h1 hh.1 | exact h2 hh.2.2.1 | exact h3 hh.2.1 | exact h4 hh.2.2.2
      rw [show sp_songM p a q b = -1 from if_neg hno] at hq
      exact w_iret rfl rfl rfl hq
    · replace h2 := pI_ne.mp h2
      refine w_blk 3 (pc' := 25) (ls' := [some (.ref 53), some (.int p), some (.int a), some (.int q), some (.int b), none, none]) (sk' := [.int 999, .int 0, .int a]) (st' := st) (fun _ h => h) ?_
      refine w_callS (As := [.int a, .int 0, .int 999]) (rest := []) rfl rfl rfl (Nat.le_of_ble_eq_true rfl) (Nat.le_of_ble_eq_true rfl) (m_in (d + 0) a 0 999 st) ?_
      refine w_if_eq rfl (fun h3 => ?_) (fun h3 => ?_)
      · replace h3 := pI_eq0.mp h3
        refine w_blk 1 (pc' := 44) (ls' := [some (.ref 53), some (.int p), some (.int a), some (.int q), some (.int b), none, none]) (sk' := [.int (-1)]) (st' := st) (fun _ h => h) ?_
        have hno : ¬ okS p a q b := fun hh => by first | exact h1 hh.1 | exact h2 hh.2.2.1 | exact h3 hh.2.1 | exact h4 hh.2.2.2
        rw [show sp_songM p a q b = -1 from if_neg hno] at hq
        exact w_iret rfl rfl rfl hq
      · replace h3 := pI_ne.mp h3
        refine w_blk 3 (pc' := 37) (ls' := [some (.ref 53), some (.int p), some (.int a), some (.int q), some (.int b), none, none]) (sk' := [.int 999, .int 0, .int b]) (st' := st) (fun _ h => h) ?_
        refine w_callS (As := [.int b, .int 0, .int 999]) (rest := []) rfl rfl rfl (Nat.le_of_ble_eq_true rfl) (Nat.le_of_ble_eq_true rfl) (m_in (d + 0) b 0 999 st) ?_
        refine w_if_ne rfl (fun h4 => ?_) (fun h4 => ?_)
        · replace h4 := pI_ne.mp h4
          have hok : okS p a q b := ⟨h1, h3, h2, h4⟩
          obtain ⟨p', hp1, hp2, ep⟩ := nI_within (a := 1) (b := 99) h1 (by decide) (by decide)
          obtain ⟨a', ha1, ha2, ea⟩ := nI_within (a := 0) (b := 999) h3 (by decide) (by decide)
          obtain ⟨q', hq1, hq2, eq⟩ := nI_within (a := 1) (b := 99) h2 (by decide) (by decide)
          obtain ⟨b', hb1, hb2, eb⟩ := nI_within (a := 0) (b := 999) h4 (by decide) (by decide)
          subst ep ea eq eb
          rw [show sp_songM (nI p') (nI a') (nI q') (nI b') = sgM a' p' b' q' (max a' b') (p' * q' + 1) from (if_pos hok).trans (by rw [nI_clamp (show p' < 2 ^ 31 by omega), nI_clamp (show a' < 2 ^ 31 by omega), nI_clamp (show q' < 2 ^ 31 by omega), nI_clamp (show b' < 2 ^ 31 by omega)])] at hq
          clear hok h1 h2 h3 h4
          refine w_blk 2 (pc' := 48) (ls' := [some (.ref 53), some (.int (nI p')), some (.int (nI a')), some (.int (nI q')), some (.int (nI b')), none, none]) (sk' := [.int (nI b'), .int (nI a')]) (st' := st) (fun _ h => h) ?_
          have hpq : p' * q' ≤ 99 * 99 := Nat.mul_le_mul hp2 hq2
          have J : mW (mMC mT (d + 1)) (0, fun _ => 0) (mAtL P_X10_songs) (some .int) Q 57 [some (.ref 53), some (.int (nI p')), some (.int (nI a')), some (.int (nI q')), some (.int (nI b')), none, none] [.int (nI (max a' b'))] st := by
            refine w_blk 3 (pc' := 63) (ls' := [some (.ref 53), some (.int (nI p')), some (.int (nI a')), some (.int (nI q')), some (.int (nI b')), some (.int (nI (max a' b'))), some (.int (nI (max a' b')))]) (sk' := []) (st' := st) (fun _ h => h) ?_
            suffices key : ∀ k t, t + k = max a' b' + (p' * q' + 1) → max a' b' ≤ t → Q (some (.int (sgM a' p' b' q' t k))) st → mW (mMC mT (d + 1)) (0, fun _ => 0) (mAtL P_X10_songs) (some .int) Q 63 [some (.ref 53), some (.int (nI p')), some (.int (nI a')), some (.int (nI q')), some (.int (nI b')), some (.int (nI (max a' b'))), some (.int (nI t))] [] st from key (p' * q' + 1) (max a' b') rfl (by omega) hq
            intro k
            induction k with
            | zero =>
              intro t hi h1 hq2
              refine w_blk 5 (pc' := 70) (ls' := [some (.ref 53), some (.int (nI p')), some (.int (nI a')), some (.int (nI q')), some (.int (nI b')), some (.int (nI (max a' b'))), some (.int (nI t))]) (sk' := [.int ((nI p') * (nI q')), .int (nI (max a' b')), .int (nI t)]) (st' := st) (fun _ h => h) ?_
              rw [show ((nI p') * (nI q')) = nI (p' * q') from pk_mul p' q']
              refine w_blk 1 (pc' := 71) (ls' := [some (.ref 53), some (.int (nI p')), some (.int (nI a')), some (.int (nI q')), some (.int (nI b')), some (.int (nI (max a' b'))), some (.int (nI t))]) (sk' := [.int ((nI (max a' b')) + (nI (p' * q'))), .int (nI t)]) (st' := st) (fun _ h => h) ?_
              rw [show ((nI (max a' b')) + (nI (p' * q'))) = nI ((max a' b') + (p' * q')) from nI_add (max a' b') (p' * q')]
              refine w_cmp_gt rfl (fun _ => ?_) (fun hno => absurd (nI_lt (a := max a' b' + p' * q') (b := t) (by omega) (by omega)) hno)
              refine w_blk 1 (pc' := 104) (ls' := [some (.ref 53), some (.int (nI p')), some (.int (nI a')), some (.int (nI q')), some (.int (nI b')), some (.int (nI (max a' b'))), some (.int (nI t))]) (sk' := [.int (-9)]) (st' := st) (fun _ h => h) ?_
              exact w_iret rfl rfl rfl hq2
            | succ k ih =>
              intro t hi h1 hq2
              refine w_blk 5 (pc' := 70) (ls' := [some (.ref 53), some (.int (nI p')), some (.int (nI a')), some (.int (nI q')), some (.int (nI b')), some (.int (nI (max a' b'))), some (.int (nI t))]) (sk' := [.int ((nI p') * (nI q')), .int (nI (max a' b')), .int (nI t)]) (st' := st) (fun _ h => h) ?_
              rw [show ((nI p') * (nI q')) = nI (p' * q') from pk_mul p' q']
              refine w_blk 1 (pc' := 71) (ls' := [some (.ref 53), some (.int (nI p')), some (.int (nI a')), some (.int (nI q')), some (.int (nI b')), some (.int (nI (max a' b'))), some (.int (nI t))]) (sk' := [.int ((nI (max a' b')) + (nI (p' * q'))), .int (nI t)]) (st' := st) (fun _ h => h) ?_
              rw [show ((nI (max a' b')) + (nI (p' * q'))) = nI ((max a' b') + (p' * q')) from nI_add (max a' b') (p' * q')]
              refine w_cmp_gt rfl (fun hno => absurd hno (nI_nlt (a := max a' b' + p' * q') (b := t) (by omega) (by omega))) (fun _ => ?_)
              refine w_blk 3 (pc' := 78) (ls' := [some (.ref 53), some (.int (nI p')), some (.int (nI a')), some (.int (nI q')), some (.int (nI b')), some (.int (nI (max a' b'))), some (.int (nI t))]) (sk' := [.int ((nI t) - (nI a'))]) (st' := st) (fun _ h => h) ?_
              rw [show ((nI t) - (nI a')) = nI (t - a') from pk_sub (a := t) (b := a') (by omega)]
              refine w_blk 1 (pc' := 79) (ls' := [some (.ref 53), some (.int (nI p')), some (.int (nI a')), some (.int (nI q')), some (.int (nI b')), some (.int (nI (max a' b'))), some (.int (nI t))]) (sk' := [.int (nI p'), .int (nI (t - a'))]) (st' := st) (fun _ h => h) ?_
              refine w_rem rfl (nI_ne0 (n := p') (by omega) (by omega)) ?_
              rw [show ((nI (t - a')) - (nI (t - a')) / (nI p') * (nI p')) = nI ((t - a') % p') from pk_rem (by omega) (by omega) (by omega)]
              have hmp : (t - a') % p' < p' := Nat.mod_lt _ (by omega)
              refine w_if_ne rfl (fun h6 => ?_) (fun h6 => ?_)
              · replace h6 : ¬ ((t - a') % p' = 0) := fun hh => h6 ((nI_eq (a := ((t - a') % p')) (b := 0) (by omega) (by omega)).mpr hh)
                refine w_blk 1 (pc' := 99) (ls' := [some (.ref 53), some (.int (nI p')), some (.int (nI a')), some (.int (nI q')), some (.int (nI b')), some (.int (nI (max a' b'))), some (.int ((nI t) + 1))]) (sk' := []) (st' := st) (fun _ h => h) ?_
                rw [show ((nI t) + 1) = nI (t + 1) from nI_add t 1]
                refine w_blk 1 (pc' := 63) (ls' := [some (.ref 53), some (.int (nI p')), some (.int (nI a')), some (.int (nI q')), some (.int (nI b')), some (.int (nI (max a' b'))), some (.int (nI (t + 1)))]) (sk' := []) (st' := st) (fun _ h => h) ?_
                exact ih (t + 1) (by omega) (by omega) (by rw [show sgM a' p' b' q' t (k + 1) = sgM a' p' b' q' (t + 1) k from if_neg (fun e => h6 e.1)] at hq2; exact hq2)
              · replace h6 : (t - a') % p' = 0 := (nI_eq (a := ((t - a') % p')) (b := 0) (by omega) (by omega)).mp (Decidable.not_not.mp h6)
                refine w_blk 3 (pc' := 88) (ls' := [some (.ref 53), some (.int (nI p')), some (.int (nI a')), some (.int (nI q')), some (.int (nI b')), some (.int (nI (max a' b'))), some (.int (nI t))]) (sk' := [.int ((nI t) - (nI b'))]) (st' := st) (fun _ h => h) ?_
                rw [show ((nI t) - (nI b')) = nI (t - b') from pk_sub (a := t) (b := b') (by omega)]
                refine w_blk 1 (pc' := 89) (ls' := [some (.ref 53), some (.int (nI p')), some (.int (nI a')), some (.int (nI q')), some (.int (nI b')), some (.int (nI (max a' b'))), some (.int (nI t))]) (sk' := [.int (nI q'), .int (nI (t - b'))]) (st' := st) (fun _ h => h) ?_
                refine w_rem rfl (nI_ne0 (n := q') (by omega) (by omega)) ?_
                rw [show ((nI (t - b')) - (nI (t - b')) / (nI q') * (nI q')) = nI ((t - b') % q') from pk_rem (by omega) (by omega) (by omega)]
                have hmq : (t - b') % q' < q' := Nat.mod_lt _ (by omega)
                refine w_if_ne rfl (fun h7 => ?_) (fun h7 => ?_)
                · replace h7 : ¬ ((t - b') % q' = 0) := fun hh => h7 ((nI_eq (a := ((t - b') % q')) (b := 0) (by omega) (by omega)).mpr hh)
                  refine w_blk 1 (pc' := 99) (ls' := [some (.ref 53), some (.int (nI p')), some (.int (nI a')), some (.int (nI q')), some (.int (nI b')), some (.int (nI (max a' b'))), some (.int ((nI t) + 1))]) (sk' := []) (st' := st) (fun _ h => h) ?_
                  rw [show ((nI t) + 1) = nI (t + 1) from nI_add t 1]
                  refine w_blk 1 (pc' := 63) (ls' := [some (.ref 53), some (.int (nI p')), some (.int (nI a')), some (.int (nI q')), some (.int (nI b')), some (.int (nI (max a' b'))), some (.int (nI (t + 1)))]) (sk' := []) (st' := st) (fun _ h => h) ?_
                  exact ih (t + 1) (by omega) (by omega) (by rw [show sgM a' p' b' q' t (k + 1) = sgM a' p' b' q' (t + 1) k from if_neg (fun e => h7 e.2)] at hq2; exact hq2)
                · replace h7 : (t - b') % q' = 0 := (nI_eq (a := ((t - b') % q')) (b := 0) (by omega) (by omega)).mp (Decidable.not_not.mp h7)
                  refine w_blk 1 (pc' := 95) (ls' := [some (.ref 53), some (.int (nI p')), some (.int (nI a')), some (.int (nI q')), some (.int (nI b')), some (.int (nI (max a' b'))), some (.int (nI t))]) (sk' := [.int (nI t)]) (st' := st) (fun _ h => h) ?_
                  exact w_iret rfl rfl rfl (by rw [show sgM a' p' b' q' t (k + 1) = nI t from if_pos ⟨h6, h7⟩] at hq2; exact hq2)
          refine w_cmp_le rfl (fun h5 => ?_) (fun h5 => ?_)
          · replace h5 : a' ≤ b' := (nI_leI (a := a') (b := b') (by omega) (by omega)).mp h5
            refine w_blk 1 (pc' := 57) (ls' := [some (.ref 53), some (.int (nI p')), some (.int (nI a')), some (.int (nI q')), some (.int (nI b')), none, none]) (sk' := [.int (nI b')]) (st' := st) (fun _ h => h) ?_
            exact (by have hh := J; rw [show max a' b' = b' by omega] at hh; exact hh)
          · replace h5 : ¬ (a' ≤ b') := fun hh => h5 ((nI_leI (a := a') (b := b') (by omega) (by omega)).mpr hh)
            refine w_blk 2 (pc' := 57) (ls' := [some (.ref 53), some (.int (nI p')), some (.int (nI a')), some (.int (nI q')), some (.int (nI b')), none, none]) (sk' := [.int (nI a')]) (st' := st) (fun _ h => h) ?_
            exact (by have hh := J; rw [show max a' b' = a' by omega] at hh; exact hh)
        · replace h4 := pI_eq0.mp (Decidable.not_not.mp h4)
          refine w_blk 1 (pc' := 44) (ls' := [some (.ref 53), some (.int p), some (.int a), some (.int q), some (.int b), none, none]) (sk' := [.int (-1)]) (st' := st) (fun _ h => h) ?_
          have hno : ¬ okS p a q b := fun hh => by first | exact h1 hh.1 | exact h2 hh.2.2.1 | exact h3 hh.2.1 | exact h4 hh.2.2.2
          rw [show sp_songM p a q b = -1 from if_neg hno] at hq
          exact w_iret rfl rfl rfl hq
