/-! TYPING, both sides -/
theorem app_s (b : Nat → Nat) (L : Nat) (v : Int64) (k : Nat) : app b L v (k + 1) = app (updN b L (bv v k)) (L + 1) v k := by rw [app]
theorem i_m1 (x : Int32) : x + Int32.ofInt (-1) = x - 1 := by rw [Int32.sub_eq_add_neg, show Int32.ofInt (-1) = -1 from by decide]
theorem w_iinc {C : Nat → List Value → mSt → Option Value → mSt → Prop} {S : Nat × (Nat → Int32)} {P : Nat → Option mE} {rt : Option FieldType} {Q : Option Value → mSt → Prop} {pc : Nat} {ls ls' : mLs} {st : mSt} {sk : List Value} {i : Nat} {n : Int} {len : Nat} {aux : List Nat} {z : Int} {x y : Int32} (hp : P pc = some (.iinc i n, len, aux, z)) (hg : mGet ls i = some (.int x)) (hl : Nat.blt i ls.length = true) (hy : x + Int32.ofInt n = y) (hs : mSet1 ls i (.int y) = ls') (k : mW C S P rt Q (pc + 3) ls' sk st) : mW C S P rt Q pc ls sk st := w_step hp (fun K k => by
  show match mGet ls i with | some (.int x) => bif Nat.blt i ls.length then K (pc + 3) (mSet1 ls i (.int (x + Int32.ofInt n))) sk st else False | _ => False
  rw [hg]
  simp only [hl, cond_true, hy, hs]
  exact k) k
def sp_type (L : Nat) (n : Int32) : Int32 := if 1 ≤ n ∧ n ≤ 8 then (if L + n.toNatClampNeg ≤ 300 then nI (L + n.toNatClampNeg) else -3) else -1
def ty_n (L : Nat) (n : Int32) : Nat := if (1 ≤ n ∧ n ≤ 8) ∧ L + n.toNatClampNeg ≤ 300 then n.toNatClampNeg else 0
set_option maxRecDepth 20000 in
/-- append(v, n) -/
theorem c_append (d : Nat) (v : Int64) (L : Nat) (b : Nat → Nat) (n : Nat) (st : mSt) (hP : XS st L b) (hL : L + n ≤ 300) (hn : n ≤ 8) : ∃ (s : mSt), mMC mT (d + 2) 59 [.ref 1, .long v, .int (nI n)] st (none) s ∧ XS s (L + n) (app b L v n) ∧ Fr [1, 2] st s ∧ Fk 1 [0] st s := by
  suffices H : ∀ Q : Option Value → mSt → Prop, (∀ (s : mSt), (XS s (L + n) (app b L v n) ∧ Fr [1, 2] st s ∧ Fk 1 [0] st s) → Q (none) s) → mW (mMC mT (d + 1)) (0, fun _ => 0) (mAtL P_X7_append) none Q 0 [some (.ref 1), some (.long v), none, some (.int (nI n)), none] [] st by
    obtain ⟨_, _, ⟨s, rfl, rfl, hp⟩, hw⟩ := mW_ex (H (fun vv tt => ∃ (s : mSt),  vv = none ∧ s = tt ∧ XS s (L + n) (app b L v n) ∧ Fr [1, 2] st s ∧ Fk 1 [0] st s) (fun s hp => ⟨s, rfl, rfl, hp⟩))
    exact ⟨s, mI_X7_append (d := d + 1) (Nat.le_of_ble_eq_true rfl) hw, hp⟩
  intro Q hq
  refine w_blk 4 (pc' := 5) (ls' := [some (.ref 1), some (.long v), none, some (.int (nI n)), some (.int ((nI n) - 1))]) (sk' := []) (st' := st) (fun _ h => h) ?_
  suffices key : ∀ (k L : Nat) (b : Nat → Nat) (s0 : mSt), XS s0 L b → L + k ≤ 300 → k ≤ 8 → (∀ s : mSt, (XS s (L + k) (app b L v k) ∧ Fr [1, 2] s0 s ∧ Fk 1 [0] s0 s) → Q none s) → mW (mMC mT (d + 1)) (0, fun _ => 0) (mAtL P_X7_append) none Q 5 [some (.ref 1), some (.long v), none, some (.int (nI n)), some (.int ((nI k) - 1))] [] s0 from key n L b st hP hL hn hq
  intro k
  induction k with
  | zero =>
    intro L b s0 hP hL hk hq2
    refine w_blk 1 (pc' := 7) (ls' := [some (.ref 1), some (.long v), none, some (.int (nI n)), some (.int ((nI 0) - 1))]) (sk' := [.int ((nI 0) - 1)]) (st' := s0) (fun _ h => h) ?_
    refine w_if_lt rfl (fun _ => ?_) (fun hno => absurd (show nI 0 - 1 < 0 by decide) hno)
    exact w_vret rfl rfl (hq2 _ ⟨hP, Fr.rf, Fk.rf⟩)
  | succ k ih =>
    intro L b s0 hP hL hk hq2
    rw [nI_pred]
    refine w_blk 1 (pc' := 7) (ls' := [some (.ref 1), some (.long v), none, some (.int (nI n)), some (.int (nI k))]) (sk' := [.int (nI k)]) (st' := s0) (fun _ h => h) ?_
    refine w_if_lt rfl (fun hno => absurd hno (nI_pos (show k < 2 ^ 31 by omega))) (fun _ => ?_)
    refine w_blk 4 (pc' := 18) (ls' := [some (.ref 1), some (.long v), none, some (.int (nI n)), some (.int (nI k))]) (sk' := [.int (s0.1 1 0), .ref 2]) (st' := s0) (fun _ h => h) ?_
    rw [hP.1]
    refine w_blk 4 (pc' := 24) (ls' := [some (.ref 1), some (.long v), none, some (.int (nI n)), some (.int (nI k))]) (sk' := [.int (8 * (nI k)), .long v, .int (nI L), .ref 2]) (st' := s0) (fun _ h => h) ?_
    rw [show (8 * (nI k)) = nI (8 * k) from pk_mul 8 k]
    refine w_blk 4 (pc' := 30) (ls' := [some (.ref 1), some (.long v), none, some (.int (nI n)), some (.int (nI k))]) (sk' := [.int ((Int64.toInt32 ((Int64.toUInt64 v >>> (Int64.toUInt64 (Int32.toInt64 (nI (8 * k))) &&& Int64.toUInt64 63)).toInt64)) &&& 255), .int (nI L), .ref 2]) (st' := s0) (fun _ h => h) ?_
    rw [show ((Int64.toInt32 ((Int64.toUInt64 v >>> (Int64.toUInt64 (Int32.toInt64 (nI (8 * k))) &&& Int64.toUInt64 63)).toInt64)) &&& 255) = nI (bv v k) from x_byte v (by omega)]
    refine w_callS (As := [.ref 2, .int (nI L), .int (nI (bv v k))]) (rest := []) rfl rfl rfl (Nat.le_of_ble_eq_true rfl) (Nat.le_of_ble_eq_true rfl) (c_putK (d + 0) 2 300 L (nI (bv v k)) s0 (by omega) (by decide) rfl) ?_
    refine w_blk 3 (pc' := 38) (ls' := [some (.ref 1), some (.long v), none, some (.int (nI n)), some (.int (nI k))]) (sk' := [.int (s0.1 1 0), .ref 1]) (st' := ((mU s0.1 2 L (nI (bv v k))), s0.2)) (fun _ h => h) ?_
    rw [hP.1]
    refine w_blk 2 (pc' := 40) (ls' := [some (.ref 1), some (.long v), none, some (.int (nI n)), some (.int (nI k))]) (sk' := [.int ((nI L) + 1), .ref 1]) (st' := ((mU s0.1 2 L (nI (bv v k))), s0.2)) (fun _ h => h) ?_
    rw [show ((nI L) + 1) = nI (L + 1) from nI_add L 1]
    refine w_blk 1 (pc' := 43) (ls' := [some (.ref 1), some (.long v), none, some (.int (nI n)), some (.int (nI k))]) (sk' := []) (st' := ((mU (mU s0.1 2 L (nI (bv v k))) 1 0 (nI (L + 1))), s0.2)) (fun _ h => h) ?_
    refine w_iinc (y := ((nI k) - 1)) (ls' := [some (.ref 1), some (.long v), none, some (.int (nI n)), some (.int ((nI k) - 1))]) rfl rfl rfl (i_m1 _) rfl ?_
    refine w_blk 1 (pc' := 5) (ls' := [some (.ref 1), some (.long v), none, some (.int (nI n)), some (.int ((nI k) - 1))]) (sk' := []) (st' := ((mU (mU s0.1 2 L (nI (bv v k))) 1 0 (nI (L + 1))), s0.2)) (fun _ h => h) ?_
    refine ih (L + 1) (updN b L (bv v k)) ((mU (mU s0.1 2 L (nI (bv v k))) 1 0 (nI (L + 1))), s0.2) (XS_add hP _) (by omega) (by omega) (fun s hs => hq2 s ⟨?_, ?_, ?_⟩)
    · have := hs.1; rw [show L + 1 + k = L + (k + 1) by omega, ← app_s] at this; exact this
    · exact Fr.trans (Fr.trans (Fr.trans Fr.rf (Fr.mU (by decide))) (Fr.mU (by decide))) hs.2.1
    · exact Fk.trans (Fk.trans (Fk.wn (st := s0) (by decide)) (Fk.wr (st := (mU s0.1 2 L (nI (bv v k)), s0.2)) (by decide))) hs.2.2
set_option maxRecDepth 20000 in
/-- hasRoomFor(n) -/
theorem c_hasRoom (d : Nat) (L n : Nat) (b : Nat → Nat) (st : mSt) (hP : XS st L b) (hL : L ≤ 300) (hn : n ≤ 8) : mMC mT (d + 1) 58 [.ref 1, .int (nI n)] st (some (.int (pI (L + n ≤ 300)))) st := by
  refine mI_X7_hasRoomFor (d := d + 0) (Nat.le_of_ble_eq_true rfl) (fun Q hq => ?_)
  show mW (mMC mT (d + 0)) (0, fun _ => 0) (mAtL P_X7_hasRoomFor) (some .boolean) Q 0 [some (.ref 1), some (.int (nI n))] [] st
  refine w_blk 2 (pc' := 4) (ls' := [some (.ref 1), some (.int (nI n))]) (sk' := [.int (st.1 1 0)]) (st' := st) (fun _ h => h) ?_
  rw [hP.1]
  refine w_blk 2 (pc' := 6) (ls' := [some (.ref 1), some (.int (nI n))]) (sk' := [.int ((nI L) + (nI n))]) (st' := st) (fun _ h => h) ?_
  rw [show ((nI L) + (nI n)) = nI (L + n) from nI_add L n]
  refine w_blk 1 (pc' := 9) (ls' := [some (.ref 1), some (.int (nI n))]) (sk' := [.int 300, .int (nI (L + n))]) (st' := st) (fun _ h => h) ?_
  refine w_cmp_gt rfl (fun h1 => ?_) (fun h1 => ?_)
  · replace h1 : 300 < L + n := (nI_ltI (a := 300) (b := (L + n)) (by omega) (by omega)).mp h1
    refine w_blk 1 (pc' := 17) (ls' := [some (.ref 1), some (.int (nI n))]) (sk' := [.int 0]) (st' := st) (fun _ h => h) ?_
    exact w_iret rfl rfl rfl (by rw [pI_f (show ¬ L + n ≤ 300 by omega) ] at hq; exact hq)
  · replace h1 : ¬ (300 < L + n) := fun hh => h1 ((nI_ltI (a := 300) (b := (L + n)) (by omega) (by omega)).mpr hh)
    refine w_blk 2 (pc' := 17) (ls' := [some (.ref 1), some (.int (nI n))]) (sk' := [.int 1]) (st' := st) (fun _ h => h) ?_
    exact w_iret rfl rfl rfl (by rw [pI_t (show L + n ≤ 300 by omega) ] at hq; exact hq)
set_option maxRecDepth 20000 in
/-- type -/
theorem x_type (d : Nat) (v : Int64) (n : Int32) (L : Nat) (b : Nat → Nat) (st : mSt) (hP : XS st L b) (hL : L ≤ 300) : ∃ (s : mSt), mMC mT (d + 3) 85 [.ref 0, .long v, .int n] st (some (.int (sp_type L n))) s ∧ XS s (L + ty_n L n) (app b L v (ty_n L n)) ∧ Fr [1, 2] st s ∧ Fk 1 [0] st s := by
  suffices H : ∀ Q : Option Value → mSt → Prop, (∀ (s : mSt), (XS s (L + ty_n L n) (app b L v (ty_n L n)) ∧ Fr [1, 2] st s ∧ Fk 1 [0] st s) → Q (some (.int (sp_type L n))) s) → mW (mMC mT (d + 2)) (0, fun _ => 0) (mAtL P_X9_type) (some .int) Q 0 [some (.ref 0), some (.long v), none, some (.int n)] [] st by
    obtain ⟨_, _, ⟨s, rfl, rfl, hp⟩, hw⟩ := mW_ex (H (fun vv tt => ∃ (s : mSt),  vv = some (.int (sp_type L n)) ∧ s = tt ∧ XS s (L + ty_n L n) (app b L v (ty_n L n)) ∧ Fr [1, 2] st s ∧ Fk 1 [0] st s) (fun s hp => ⟨s, rfl, rfl, hp⟩))
    exact ⟨s, mI_X9_type (d := d + 2) (Nat.le_of_ble_eq_true rfl) hw, hp⟩
  intro Q hq
  refine w_blk 3 (pc' := 4) (ls' := [some (.ref 0), some (.long v), none, some (.int n)]) (sk' := [.int 8, .int 1, .int n]) (st' := st) (fun _ h => h) ?_
  refine w_callS (As := [.int n, .int 1, .int 8]) (rest := []) rfl rfl rfl (Nat.le_of_ble_eq_true rfl) (Nat.le_of_ble_eq_true rfl) (c_within (d + 1) n 1 8 st) ?_
  refine w_if_ne rfl (fun h1 => ?_) (fun h1 => ?_)
  · replace h1 := pI_ne.mp h1
    have hok : 1 ≤ n ∧ n ≤ 8 := h1
    obtain ⟨k, hk1, hk8, rfl⟩ := nI_within (a := 1) (b := 8) h1 (by decide) (by decide)
    have ec := nI_clamp (show k < 2 ^ 31 by omega)
    refine w_blk 3 (pc' := 17) (ls' := [some (.ref 0), some (.long v), none, some (.int (nI k))]) (sk' := [.int (nI k), .ref 1]) (st' := st) (fun _ h => h) ?_
    refine w_callV (As := [.ref 1, .int (nI k)]) (rest := []) rfl rfl rfl (Nat.le_of_ble_eq_true rfl) (Nat.le_of_ble_eq_true rfl) (by first | exact Or.inl ⟨rfl, rfl⟩ | exact Or.inr ⟨rfl, rfl⟩) (c_hasRoom (d + 1) L k b st hP hL (by omega)) ?_
    refine w_if_ne rfl (fun h2 => ?_) (fun h2 => ?_)
    · replace h2 := pI_ne.mp h2
      refine w_blk 4 (pc' := 32) (ls' := [some (.ref 0), some (.long v), none, some (.int (nI k))]) (sk' := [.int (nI k), .long v, .ref 1]) (st' := st) (fun _ h => h) ?_
      obtain ⟨s1, hc_2, hP_3, hf_4, hk_5⟩ := c_append (d + 0) v L b k st hP (by omega) (by omega)
      refine w_callV (As := [.ref 1, .long v, .int (nI k)]) (rest := []) rfl rfl rfl (Nat.le_of_ble_eq_true rfl) (Nat.le_of_ble_eq_true rfl) (by first | exact Or.inl ⟨rfl, rfl⟩ | exact Or.inr ⟨rfl, rfl⟩) hc_2 ?_
      refine w_blk 3 (pc' := 42) (ls' := [some (.ref 0), some (.long v), none, some (.int (nI k))]) (sk' := [.int (s1.1 1 0)]) (st' := s1) (fun _ h => h) ?_
      rw [hP_3.1]
      exact w_iret rfl rfl rfl (by have hh := hq s1; rw [show sp_type L (nI k) = nI (L + k) from (if_pos hok).trans (by rw [ec, if_pos h2]), show ty_n L (nI k) = k from (if_pos ⟨hok, by rw [ec]; exact h2⟩).trans ec] at hh; exact hh ⟨hP_3, hf_4, hk_5⟩)
    · replace h2 := pI_eq0.mp (Decidable.not_not.mp h2)
      refine w_blk 1 (pc' := 25) (ls' := [some (.ref 0), some (.long v), none, some (.int (nI k))]) (sk' := [.int (-3)]) (st' := st) (fun _ h => h) ?_
      exact w_iret rfl rfl rfl (by have hh := hq st; rw [show sp_type L (nI k) = -3 from (if_pos hok).trans (if_neg (by rw [ec]; exact h2)), show ty_n L (nI k) = 0 from if_neg (fun e => h2 (by have := e.2; rw [ec] at this; exact this))] at hh; exact hh ⟨hP, Fr.rf, Fk.rf⟩)
  · replace h1 := pI_eq0.mp (Decidable.not_not.mp h1)
    refine w_blk 1 (pc' := 11) (ls' := [some (.ref 0), some (.long v), none, some (.int n)]) (sk' := [.int (-1)]) (st' := st) (fun _ h => h) ?_
    have hno : ¬ (1 ≤ n ∧ n ≤ 8) := h1
    exact w_iret rfl rfl rfl (by have hh := hq st; rw [show sp_type L n = -1 from if_neg hno, show ty_n L n = 0 from if_neg (fun e => hno e.1)] at hh; exact hh ⟨hP, Fr.rf, Fk.rf⟩)
set_option maxRecDepth 20000 in
/-- type -/
theorem m_type (d : Nat) (v : Int64) (n : Int32) (L : Nat) (b : Nat → Nat) (st : mSt) (hP : MS st L b) (hL : L ≤ 300) : ∃ (s : mSt), mMC mT (d + 2) 131 [.ref 53, .long v, .int n] st (some (.int (sp_type L n))) s ∧ MS s (L + ty_n L n) (app b L v (ty_n L n)) ∧ Fr [53, 54] st s ∧ Fk 53 [2] st s := by
  suffices H : ∀ Q : Option Value → mSt → Prop, (∀ (s : mSt), (MS s (L + ty_n L n) (app b L v (ty_n L n)) ∧ Fr [53, 54] st s ∧ Fk 53 [2] st s) → Q (some (.int (sp_type L n))) s) → mW (mMC mT (d + 1)) (0, fun _ => 0) (mAtL P_X10_type) (some .int) Q 0 [some (.ref 53), some (.long v), none, some (.int n), none] [] st by
    obtain ⟨_, _, ⟨s, rfl, rfl, hp⟩, hw⟩ := mW_ex (H (fun vv tt => ∃ (s : mSt),  vv = some (.int (sp_type L n)) ∧ s = tt ∧ MS s (L + ty_n L n) (app b L v (ty_n L n)) ∧ Fr [53, 54] st s ∧ Fk 53 [2] st s) (fun s hp => ⟨s, rfl, rfl, hp⟩))
    exact ⟨s, mI_X10_type (d := d + 1) (Nat.le_of_ble_eq_true rfl) hw, hp⟩
  intro Q hq
  refine w_blk 3 (pc' := 4) (ls' := [some (.ref 53), some (.long v), none, some (.int n), none]) (sk' := [.int 8, .int 1, .int n]) (st' := st) (fun _ h => h) ?_
  refine w_callS (As := [.int n, .int 1, .int 8]) (rest := []) rfl rfl rfl (Nat.le_of_ble_eq_true rfl) (Nat.le_of_ble_eq_true rfl) (m_in (d + 0) n 1 8 st) ?_
  refine w_if_ne rfl (fun h1 => ?_) (fun h1 => ?_)
  · replace h1 := pI_ne.mp h1
    have hok : 1 ≤ n ∧ n ≤ 8 := h1
    obtain ⟨k, hk1, hk8, rfl⟩ := nI_within (a := 1) (b := 8) h1 (by decide) (by decide)
    have ec := nI_clamp (show k < 2 ^ 31 by omega)
    refine w_blk 2 (pc' := 16) (ls' := [some (.ref 53), some (.long v), none, some (.int (nI k)), none]) (sk' := [.int (st.1 53 2)]) (st' := st) (fun _ h => h) ?_
    rw [hP.1]
    refine w_blk 2 (pc' := 18) (ls' := [some (.ref 53), some (.long v), none, some (.int (nI k)), none]) (sk' := [.int ((nI L) + (nI k))]) (st' := st) (fun _ h => h) ?_
    rw [show ((nI L) + (nI k)) = nI (L + k) from nI_add L k]
    refine w_blk 1 (pc' := 21) (ls' := [some (.ref 53), some (.long v), none, some (.int (nI k)), none]) (sk' := [.int 300, .int (nI (L + k))]) (st' := st) (fun _ h => h) ?_
    refine w_cmp_le rfl (fun h2 => ?_) (fun h2 => ?_)
    · replace h2 : L + k ≤ 300 := (nI_leI (a := (L + k)) (b := 300) (by omega) (by omega)).mp h2
      refine w_blk 4 (pc' := 32) (ls' := [some (.ref 53), some (.long v), none, some (.int (nI k)), some (.int ((nI k) - 1))]) (sk' := []) (st' := st) (fun _ h => h) ?_
      suffices key : ∀ (q L' : Nat) (b' : Nat → Nat) (s0 : mSt), MS s0 L' b' → L' + q ≤ 300 → q ≤ 8 → (∀ s : mSt, (MS s (L' + q) (app b' L' v q) ∧ Fr [53, 54] s0 s ∧ Fk 53 [2] s0 s) → Q (some (.int (nI (L' + q)))) s) → mW (mMC mT (d + 1)) (0, fun _ => 0) (mAtL P_X10_type) (some .int) Q 32 [some (.ref 53), some (.long v), none, some (.int (nI k)), some (.int ((nI q) - 1))] [] s0 from key k L b st hP (by omega) hk8 (fun s hs => by have hh := hq s; rw [show sp_type L (nI k) = nI (L + k) from (if_pos hok).trans (by rw [ec, if_pos h2]), show ty_n L (nI k) = k from (if_pos ⟨hok, by rw [ec]; exact h2⟩).trans ec] at hh; exact hh hs)
      intro q
      induction q with
      | zero =>
        intro L' b' s0 hP2 hL2 hk2 hq2
        refine w_blk 1 (pc' := 34) (ls' := [some (.ref 53), some (.long v), none, some (.int (nI k)), some (.int ((nI 0) - 1))]) (sk' := [.int ((nI 0) - 1)]) (st' := s0) (fun _ h => h) ?_
        refine w_if_lt rfl (fun _ => ?_) (fun hno => absurd (show nI 0 - 1 < 0 by decide) hno)
        refine w_blk 2 (pc' := 79) (ls' := [some (.ref 53), some (.long v), none, some (.int (nI k)), some (.int ((nI 0) - 1))]) (sk' := [.int (s0.1 53 2)]) (st' := s0) (fun _ h => h) ?_
        rw [hP2.1]
        exact w_iret rfl rfl rfl (hq2 _ ⟨hP2, Fr.rf, Fk.rf⟩)
      | succ q ih =>
        intro L' b' s0 hP2 hL2 hk2 hq2
        rw [nI_pred]
        refine w_blk 1 (pc' := 34) (ls' := [some (.ref 53), some (.long v), none, some (.int (nI k)), some (.int (nI q))]) (sk' := [.int (nI q)]) (st' := s0) (fun _ h => h) ?_
        refine w_if_lt rfl (fun hno => absurd hno (nI_pos (show q < 2 ^ 31 by omega))) (fun _ => ?_)
        refine w_blk 4 (pc' := 45) (ls' := [some (.ref 53), some (.long v), none, some (.int (nI k)), some (.int (nI q))]) (sk' := [.int (s0.1 53 2), .ref 54]) (st' := s0) (fun _ h => h) ?_
        rw [hP2.1]
        refine w_blk 4 (pc' := 51) (ls' := [some (.ref 53), some (.long v), none, some (.int (nI k)), some (.int (nI q))]) (sk' := [.int (8 * (nI q)), .long v, .int (nI L'), .ref 54]) (st' := s0) (fun _ h => h) ?_
        rw [show (8 * (nI q)) = nI (8 * q) from pk_mul 8 q]
        refine w_blk 5 (pc' := 58) (ls' := [some (.ref 53), some (.long v), none, some (.int (nI k)), some (.int (nI q))]) (sk' := [.int (Int8.toInt32 (Int32.toInt8 (Int64.toInt32 ((v >>> (Int32.toInt64 (nI (8 * q)) &&& 63)) &&& 255)))), .int (nI L'), .ref 54]) (st' := s0) (fun _ h => h) ?_
        rw [m_byte v (show q < 8 by omega)]
        refine w_bast1 rfl rfl (vp_in_nI (n := L') (N := 300) (by omega) (by decide)) ?_
        rw [nI_clamp (show L' < 2 ^ 31 by omega)]
        rw [sb_nar]
        refine w_blk 3 (pc' := 64) (ls' := [some (.ref 53), some (.long v), none, some (.int (nI k)), some (.int (nI q))]) (sk' := [.int (s0.1 53 2), .ref 53]) (st' := ((mU s0.1 54 L' (sb (bv v q))), s0.2)) (fun _ h => h) ?_
        rw [hP2.1]
        refine w_blk 2 (pc' := 66) (ls' := [some (.ref 53), some (.long v), none, some (.int (nI k)), some (.int (nI q))]) (sk' := [.int ((nI L') + 1), .ref 53]) (st' := ((mU s0.1 54 L' (sb (bv v q))), s0.2)) (fun _ h => h) ?_
        rw [show ((nI L') + 1) = nI (L' + 1) from nI_add L' 1]
        refine w_blk 1 (pc' := 69) (ls' := [some (.ref 53), some (.long v), none, some (.int (nI k)), some (.int (nI q))]) (sk' := []) (st' := ((mU (mU s0.1 54 L' (sb (bv v q))) 53 2 (nI (L' + 1))), s0.2)) (fun _ h => h) ?_
        refine w_iinc (y := ((nI q) - 1)) (ls' := [some (.ref 53), some (.long v), none, some (.int (nI k)), some (.int ((nI q) - 1))]) rfl rfl rfl (i_m1 _) rfl ?_
        refine w_blk 1 (pc' := 32) (ls' := [some (.ref 53), some (.long v), none, some (.int (nI k)), some (.int ((nI q) - 1))]) (sk' := []) (st' := ((mU (mU s0.1 54 L' (sb (bv v q))) 53 2 (nI (L' + 1))), s0.2)) (fun _ h => h) ?_
        refine ih (L' + 1) (updN b' L' (bv v q)) ((mU (mU s0.1 54 L' (sb (bv v q))) 53 2 (nI (L' + 1))), s0.2) (MS_add hP2 _) (by omega) (by omega) (fun s hs => ?_)
        rw [show L' + 1 + q = L' + (q + 1) by omega, ← app_s] at hs
        rw [show L' + 1 + q = L' + (q + 1) by omega]
        exact hq2 s ⟨hs.1, Fr.trans (Fr.trans (Fr.trans Fr.rf (Fr.mU (by decide))) (Fr.mU (by decide))) hs.2.1, Fk.trans (Fk.trans (Fk.wn (st := s0) (by decide)) (Fk.wr (st := (mU s0.1 54 L' (sb (bv v q)), s0.2)) (by decide))) hs.2.2⟩
    · replace h2 : ¬ (L + k ≤ 300) := fun hh => h2 ((nI_leI (a := (L + k)) (b := 300) (by omega) (by omega)).mpr hh)
      refine w_blk 1 (pc' := 26) (ls' := [some (.ref 53), some (.long v), none, some (.int (nI k)), none]) (sk' := [.int (-3)]) (st' := st) (fun _ h => h) ?_
      exact w_iret rfl rfl rfl (by have hh := hq st; rw [show sp_type L (nI k) = -3 from (if_pos hok).trans (if_neg (by rw [ec]; exact h2)), show ty_n L (nI k) = 0 from if_neg (fun e => h2 (by have := e.2; rw [ec] at this; exact this))] at hh; exact hh ⟨hP, Fr.rf, Fk.rf⟩)
  · replace h1 := pI_eq0.mp (Decidable.not_not.mp h1)
    refine w_blk 1 (pc' := 11) (ls' := [some (.ref 53), some (.long v), none, some (.int n), none]) (sk' := [.int (-1)]) (st' := st) (fun _ h => h) ?_
    have hno : ¬ (1 ≤ n ∧ n ≤ 8) := h1
    exact w_iret rfl rfl rfl (by have hh := hq st; rw [show sp_type L n = -1 from if_neg hno, show ty_n L n = 0 from if_neg (fun e => hno e.1)] at hh; exact hh ⟨hP, Fr.rf, Fk.rf⟩)
set_option maxRecDepth 20000 in
/-- clear, wipe -/
theorem c_wipe (d : Nat) (L : Nat) (b : Nat → Nat) (st : mSt) (hP : XS st L b) : ∃ (s : mSt), mMC mT (d + 1) 60 [.ref 1] st (some (.int (nI L))) s ∧ XS s 0 b ∧ Fr [1, 2] st s ∧ Fk 1 [0] st s := by
  suffices H : ∀ Q : Option Value → mSt → Prop, (∀ (s : mSt), (XS s 0 b ∧ Fr [1, 2] st s ∧ Fk 1 [0] st s) → Q (some (.int (nI L))) s) → mW (mMC mT (d + 0)) (0, fun _ => 0) (mAtL P_X7_wipe) (some .int) Q 0 [some (.ref 1), none] [] st by
    obtain ⟨_, _, ⟨s, rfl, rfl, hp⟩, hw⟩ := mW_ex (H (fun vv tt => ∃ (s : mSt),  vv = some (.int (nI L)) ∧ s = tt ∧ XS s 0 b ∧ Fr [1, 2] st s ∧ Fk 1 [0] st s) (fun s hp => ⟨s, rfl, rfl, hp⟩))
    exact ⟨s, mI_X7_wipe (d := d + 0) (Nat.le_of_ble_eq_true rfl) hw, hp⟩
  intro Q hq
  refine w_blk 2 (pc' := 4) (ls' := [some (.ref 1), none]) (sk' := [.int (st.1 1 0)]) (st' := st) (fun _ h => h) ?_
  rw [hP.1]
  refine w_blk 5 (pc' := 11) (ls' := [some (.ref 1), some (.int (nI L))]) (sk' := [.int (nI L)]) (st' := ((mU st.1 1 0 0), st.2)) (fun _ h => h) ?_
  exact w_iret rfl rfl rfl (hq _ ⟨⟨rfl, fun j hj => absurd hj (by omega)⟩, Fr.trans Fr.rf (Fr.mU (by decide)), Fk.wr (by decide)⟩)
set_option maxRecDepth 20000 in
/-- clear, wipe -/
theorem x_clear (d : Nat) (L : Nat) (b : Nat → Nat) (st : mSt) (hP : XS st L b) : ∃ (s : mSt), mMC mT (d + 2) 86 [.ref 0] st (some (.int (nI L))) s ∧ XS s 0 b ∧ Fr [1, 2] st s ∧ Fk 1 [0] st s := by
  suffices H : ∀ Q : Option Value → mSt → Prop, (∀ (s : mSt), (XS s 0 b ∧ Fr [1, 2] st s ∧ Fk 1 [0] st s) → Q (some (.int (nI L))) s) → mW (mMC mT (d + 1)) (0, fun _ => 0) (mAtL P_X9_clear) (some .int) Q 0 [some (.ref 0)] [] st by
    obtain ⟨_, _, ⟨s, rfl, rfl, hp⟩, hw⟩ := mW_ex (H (fun vv tt => ∃ (s : mSt),  vv = some (.int (nI L)) ∧ s = tt ∧ XS s 0 b ∧ Fr [1, 2] st s ∧ Fk 1 [0] st s) (fun s hp => ⟨s, rfl, rfl, hp⟩))
    exact ⟨s, mI_X9_clear (d := d + 1) (Nat.le_of_ble_eq_true rfl) hw, hp⟩
  intro Q hq
  refine w_blk 2 (pc' := 4) (ls' := [some (.ref 0)]) (sk' := [.ref 1]) (st' := st) (fun _ h => h) ?_
  obtain ⟨s1, hc_2, hP_3, hf_4, hk_5⟩ := c_wipe (d + 0) L b st hP
  refine w_callV (As := [.ref 1]) (rest := []) rfl rfl rfl (Nat.le_of_ble_eq_true rfl) (Nat.le_of_ble_eq_true rfl) (by first | exact Or.inl ⟨rfl, rfl⟩ | exact Or.inr ⟨rfl, rfl⟩) hc_2 ?_
  exact w_iret rfl rfl rfl (hq _ ⟨hP_3, hf_4, hk_5⟩)
set_option maxRecDepth 20000 in
/-- clear, wipe -/
theorem m_clear (d : Nat) (L : Nat) (b : Nat → Nat) (st : mSt) (hP : MS st L b) : ∃ (s : mSt), mMC mT (d + 1) 132 [.ref 53] st (some (.int (nI L))) s ∧ MS s 0 b ∧ Fr [53, 54] st s ∧ Fk 53 [2] st s := by
  suffices H : ∀ Q : Option Value → mSt → Prop, (∀ (s : mSt), (MS s 0 b ∧ Fr [53, 54] st s ∧ Fk 53 [2] st s) → Q (some (.int (nI L))) s) → mW (mMC mT (d + 0)) (0, fun _ => 0) (mAtL P_X10_clear) (some .int) Q 0 [some (.ref 53), none] [] st by
    obtain ⟨_, _, ⟨s, rfl, rfl, hp⟩, hw⟩ := mW_ex (H (fun vv tt => ∃ (s : mSt),  vv = some (.int (nI L)) ∧ s = tt ∧ MS s 0 b ∧ Fr [53, 54] st s ∧ Fk 53 [2] st s) (fun s hp => ⟨s, rfl, rfl, hp⟩))
    exact ⟨s, mI_X10_clear (d := d + 0) (Nat.le_of_ble_eq_true rfl) hw, hp⟩
  intro Q hq
  refine w_blk 2 (pc' := 4) (ls' := [some (.ref 53), none]) (sk' := [.int (st.1 53 2)]) (st' := st) (fun _ h => h) ?_
  rw [hP.1]
  refine w_blk 5 (pc' := 11) (ls' := [some (.ref 53), some (.int (nI L))]) (sk' := [.int (nI L)]) (st' := ((mU st.1 53 2 0), st.2)) (fun _ h => h) ?_
  exact w_iret rfl rfl rfl (hq _ ⟨⟨rfl, fun j hj => absurd hj (by omega)⟩, Fr.trans Fr.rf (Fr.mU (by decide)), Fk.wr (by decide)⟩)
