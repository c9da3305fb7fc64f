/-! CHEATS: the walks -/
def TB (a : Nat) (R D S : Nat → Nat) : Prop := a ≤ 30 ∧ ∀ k, k < a → R k ≤ 99 ∧ D k < 6 ∧ S k < 8
def twB (D S : Nat → Nat) (i : Nat) : Bool := hasB (fun j => decide (D i = D j) && decide (S i = S j)) i
theorem and_pow0 {n k : Nat} : n &&& 2 ^ k = 0 ↔ ¬ n.testBit k = true := by
  constructor
  · intro h hb
    have h1 : (n &&& 2 ^ k).testBit k = true := by rw [Nat.testBit_and, hb, Nat.testBit_two_pow_self]; rfl
    rw [h, Nat.zero_testBit] at h1
    exact absurd h1 (by decide)
  · intro h
    apply Nat.eq_of_testBit_eq
    intro i
    rw [Nat.testBit_and, Nat.zero_testBit]
    by_cases e : k = i
    · subst e
      rw [Bool.eq_false_iff.mpr h]
      rfl
    · rw [Nat.testBit_two_pow_of_ne e, Bool.and_false]
theorem seen_tw {D S : Nat → Nat} {k : Nat} (hS : ∀ i, i ≤ k → S i < 8) : (orB (fun _ => true) (fun i => D i * 8 + S i) k).testBit (D k * 8 + S k) = true ↔ twB D S k = true := by
  unfold twB
  rw [orB_bit, hasB_iff]
  have h0 := hS k (Nat.le_refl _)
  constructor
  · rintro ⟨i, hi, -, h⟩
    have h1 := hS i (by omega)
    have h2 : D i * 8 + S i = D k * 8 + S k := h
    exact ⟨i, hi, by rw [decide_eq_true (show D k = D i by omega), decide_eq_true (show S k = S i by omega)]; rfl⟩
  · rintro ⟨i, hi, h⟩
    rw [Bool.and_eq_true] at h
    refine ⟨i, hi, rfl, ?_⟩
    show D i * 8 + S i = D k * 8 + S k
    rw [of_decide_eq_true h.1, of_decide_eq_true h.2]
def fc (R D S : Nat → Nat) (a : Nat) : Nat → Nat := sm (fun r => if frB R D S a r = true then 1 else 0)
theorem fc_le (R D S : Nat → Nat) (a : Nat) : ∀ r, fc R D S a r ≤ r := by
  intro r
  induction r with
  | zero => exact Nat.le_refl _
  | succ r ih =>
    show fc R D S a r + (if frB R D S a r = true then 1 else 0) ≤ _
    split <;> omega
def sp_cheats (a : Nat) (R D S : Nat → Nat) (w : Int32) : Int32 := if w = 0 then nI (orB (twB D S) D a) else if w = 1 then nI (fc R D S a 100) else -1
set_option maxRecDepth 20000 in
theorem c_lbc (d n : Nat) (st : mSt) (h : n < 2 ^ 48) : mMC mT (d + 1) 1 [.long (lI n)] st (some (.int (nI (pop n 48)))) st := by
  refine mI_J13_bitCount_95d88 (d := d + 0) (Nat.le_of_ble_eq_true rfl) (fun Q hq => ?_)
  show mW (mMC mT (d + 0)) (0, fun _ => 0) (mAtL P_J13_bitCount_95d88) (some .int) Q 0 [some (.long (lI n)), none] [] st
  obtain ⟨b1, b2, b3, e, b4⟩ := lbc h
  have b5 : l4 (l3 8 (l2 8 (l1 8 n))) < 2 ^ 49 := by unfold l4; omega
  have b6 : l5 (l4 (l3 8 (l2 8 (l1 8 n)))) < 2 ^ 50 := by unfold l5; omega
  refine w_blk 7 (pc' := 9) (ls' := [some (.long (lI n)), none]) (sk' := [.long ((lI n) - (((Int64.toUInt64 (lI n) >>> (Int64.toUInt64 (Int32.toInt64 1) &&& Int64.toUInt64 63)).toInt64) &&& 6148914691236517205))]) (st' := st) (fun _ h => h) ?_
  rw [show ((lI n) - (((Int64.toUInt64 (lI n) >>> (Int64.toUInt64 (Int32.toInt64 1) &&& Int64.toUInt64 63)).toInt64) &&& 6148914691236517205)) = lI (l1 8 n) from (by rw [(lI_ush (n := n) (k := 1) (by decide) (by decide) (by omega)), show (6148914691236517205 : Int64) = lI (rep 85 8) from rfl, lI_and, lI_sub (Nat.le_trans Nat.and_le_left (Nat.div_le_self _ _)) (by omega)]; rfl)]
  refine w_blk 10 (pc' := 23) (ls' := [some (.long (lI (l1 8 n))), none]) (sk' := [.long (((lI (l1 8 n)) &&& 3689348814741910323) + (((Int64.toUInt64 (lI (l1 8 n)) >>> (Int64.toUInt64 (Int32.toInt64 2) &&& Int64.toUInt64 63)).toInt64) &&& 3689348814741910323))]) (st' := st) (fun _ h => h) ?_
  rw [show (((lI (l1 8 n)) &&& 3689348814741910323) + (((Int64.toUInt64 (lI (l1 8 n)) >>> (Int64.toUInt64 (Int32.toInt64 2) &&& Int64.toUInt64 63)).toInt64) &&& 3689348814741910323)) = lI (l2 8 (l1 8 n)) from (by rw [(lI_ush (n := l1 8 n) (k := 2) (by decide) (by decide) (by omega)), show (3689348814741910323 : Int64) = lI (rep 51 8) from rfl, lI_and, lI_and, lI_add]; rfl)]
  refine w_blk 8 (pc' := 33) (ls' := [some (.long (lI (l2 8 (l1 8 n)))), none]) (sk' := [.long (((lI (l2 8 (l1 8 n))) + ((Int64.toUInt64 (lI (l2 8 (l1 8 n))) >>> (Int64.toUInt64 (Int32.toInt64 4) &&& Int64.toUInt64 63)).toInt64)) &&& 1085102592571150095)]) (st' := st) (fun _ h => h) ?_
  rw [show (((lI (l2 8 (l1 8 n))) + ((Int64.toUInt64 (lI (l2 8 (l1 8 n))) >>> (Int64.toUInt64 (Int32.toInt64 4) &&& Int64.toUInt64 63)).toInt64)) &&& 1085102592571150095) = lI (l3 8 (l2 8 (l1 8 n))) from (by rw [(lI_ush (n := l2 8 (l1 8 n)) (k := 4) (by decide) (by decide) (by omega)), show (1085102592571150095 : Int64) = lI (rep 15 8) from rfl, lI_add, lI_and]; rfl)]
  refine w_blk 6 (pc' := 40) (ls' := [some (.long (lI (l3 8 (l2 8 (l1 8 n))))), none]) (sk' := [.long ((lI (l3 8 (l2 8 (l1 8 n)))) + ((Int64.toUInt64 (lI (l3 8 (l2 8 (l1 8 n)))) >>> (Int64.toUInt64 (Int32.toInt64 8) &&& Int64.toUInt64 63)).toInt64))]) (st' := st) (fun _ h => h) ?_
  rw [show ((lI (l3 8 (l2 8 (l1 8 n)))) + ((Int64.toUInt64 (lI (l3 8 (l2 8 (l1 8 n)))) >>> (Int64.toUInt64 (Int32.toInt64 8) &&& Int64.toUInt64 63)).toInt64)) = lI (l4 (l3 8 (l2 8 (l1 8 n)))) from (by rw [(lI_ush (n := l3 8 (l2 8 (l1 8 n))) (k := 8) (by decide) (by decide) (by omega)), lI_add]; rfl)]
  refine w_blk 6 (pc' := 47) (ls' := [some (.long (lI (l4 (l3 8 (l2 8 (l1 8 n)))))), none]) (sk' := [.long ((lI (l4 (l3 8 (l2 8 (l1 8 n))))) + ((Int64.toUInt64 (lI (l4 (l3 8 (l2 8 (l1 8 n))))) >>> (Int64.toUInt64 (Int32.toInt64 16) &&& Int64.toUInt64 63)).toInt64))]) (st' := st) (fun _ h => h) ?_
  rw [show ((lI (l4 (l3 8 (l2 8 (l1 8 n))))) + ((Int64.toUInt64 (lI (l4 (l3 8 (l2 8 (l1 8 n))))) >>> (Int64.toUInt64 (Int32.toInt64 16) &&& Int64.toUInt64 63)).toInt64)) = lI (l5 (l4 (l3 8 (l2 8 (l1 8 n))))) from (by rw [(lI_ush (n := l4 (l3 8 (l2 8 (l1 8 n)))) (k := 16) (by decide) (by decide) (by omega)), lI_add]; rfl)]
  refine w_blk 6 (pc' := 54) (ls' := [some (.long (lI (l5 (l4 (l3 8 (l2 8 (l1 8 n))))))), none]) (sk' := [.long ((lI (l5 (l4 (l3 8 (l2 8 (l1 8 n)))))) + ((Int64.toUInt64 (lI (l5 (l4 (l3 8 (l2 8 (l1 8 n)))))) >>> (Int64.toUInt64 (Int32.toInt64 32) &&& Int64.toUInt64 63)).toInt64))]) (st' := st) (fun _ h => h) ?_
  rw [show ((lI (l5 (l4 (l3 8 (l2 8 (l1 8 n)))))) + ((Int64.toUInt64 (lI (l5 (l4 (l3 8 (l2 8 (l1 8 n)))))) >>> (Int64.toUInt64 (Int32.toInt64 32) &&& Int64.toUInt64 63)).toInt64)) = lI (l6 (l5 (l4 (l3 8 (l2 8 (l1 8 n)))))) from (by rw [(lI_ush (n := l5 (l4 (l3 8 (l2 8 (l1 8 n))))) (k := 32) (by decide) (by decide) (by omega)), lI_add]; rfl)]
  refine w_blk 5 (pc' := 60) (ls' := [some (.long (lI (l6 (l5 (l4 (l3 8 (l2 8 (l1 8 n)))))))), none]) (sk' := [.int ((Int64.toInt32 (lI (l6 (l5 (l4 (l3 8 (l2 8 (l1 8 n)))))))) &&& 127)]) (st' := st) (fun _ h => h) ?_
  rw [show nI (pop n 48) = ((Int64.toInt32 (lI (l6 (l5 (l4 (l3 8 (l2 8 (l1 8 n)))))))) &&& 127) from by rw [lI_lo, show (127 : Int32) = nI 127 from rfl, nI_and, show (127 : Nat) = 2 ^ 7 - 1 from rfl, Nat.and_two_pow_sub_one_eq_mod, show (2 : Nat) ^ 7 = 128 from rfl, e]] at hq
  exact w_iret rfl rfl rfl hq
set_option maxRecDepth 20000 in
theorem c_pairOf (d : Nat) (a : Nat) (R D S : Nat → Nat) (i : Nat) (st : mSt) (hP : XT st a R D S) (hH : TB a R D S) (hi : i < a) : mMC mT (d + 2) 81 [.ref 49, .int (nI i)] st (some (.long (lI (2 ^ (D i * 8 + S i))))) st := by
  refine mI_X8_pairOf (d := d + 1) (Nat.le_of_ble_eq_true rfl) (fun Q hq => ?_)
  show mW (mMC mT (d + 1)) (0, fun _ => 0) (mAtL P_X8_pairOf) (some .long) Q 0 [some (.ref 49), some (.int (nI i))] [] st
  have ha := hH.1
  have hHi := hH.2 i hi
  refine w_blk 4 (pc' := 6) (ls' := [some (.ref 49), some (.int (nI i))]) (sk' := [.int (nI i), .ref 51, .long 1]) (st' := st) (fun _ h => h) ?_
  refine w_callS (As := [.ref 51, .int (nI i)]) (rest := [.long 1]) rfl rfl rfl (Nat.le_of_ble_eq_true rfl) (Nat.le_of_ble_eq_true rfl) (c_cellK (d + 0) 51 30 i st (by omega) (by decide) rfl) ?_
  rw [(hP.2 i (by omega)).2.1]
  refine w_blk 2 (pc' := 12) (ls' := [some (.ref 49), some (.int (nI i))]) (sk' := [.int ((nI (D i)) * 8), .long 1]) (st' := st) (fun _ h => h) ?_
  rw [show ((nI (D i)) * 8) = nI ((D i) * 8) from pk_mul (D i) 8]
  refine w_blk 3 (pc' := 17) (ls' := [some (.ref 49), some (.int (nI i))]) (sk' := [.int (nI i), .ref 52, .int (nI ((D i) * 8)), .long 1]) (st' := st) (fun _ h => h) ?_
  refine w_callS (As := [.ref 52, .int (nI i)]) (rest := [.int (nI ((D i) * 8)), .long 1]) rfl rfl rfl (Nat.le_of_ble_eq_true rfl) (Nat.le_of_ble_eq_true rfl) (c_cellK (d + 0) 52 30 i st (by omega) (by decide) rfl) ?_
  rw [(hP.2 i (by omega)).2.2]
  refine w_blk 1 (pc' := 21) (ls' := [some (.ref 49), some (.int (nI i))]) (sk' := [.int ((nI ((D i) * 8)) + (nI (S i))), .long 1]) (st' := st) (fun _ h => h) ?_
  rw [show ((nI ((D i) * 8)) + (nI (S i))) = nI (((D i) * 8) + (S i)) from nI_add ((D i) * 8) (S i)]
  refine w_blk 1 (pc' := 22) (ls' := [some (.ref 49), some (.int (nI i))]) (sk' := [.long ((1 : Int64) <<< (Int32.toInt64 (nI (((D i) * 8) + (S i))) &&& 63))]) (st' := st) (fun _ h => h) ?_
  rw [lI_shl1 (D i * 8 + S i) (by omega)]
  exact w_lret rfl rfl hq
set_option maxRecDepth 20000 in
/-- whoThrewTwice() -/
theorem c_twice (d : Nat) (a : Nat) (R D S : Nat → Nat) (st : mSt) (hP : XT st a R D S) (hH : TB a R D S) : mMC mT (d + 3) 82 [.ref 49] st (some (.int (nI (orB (twB D S) D a)))) st := by
  refine mI_X8_whoThrewTwice (d := d + 2) (Nat.le_of_ble_eq_true rfl) (fun Q hq => ?_)
  show mW (mMC mT (d + 2)) (0, fun _ => 0) (mAtL P_X8_whoThrewTwice) (some .int) Q 0 [some (.ref 49), none, none, none, none] [] st
  have ha := hH.1
  have hsn : ∀ k, k ≤ a → orB (fun _ => true) (fun i => D i * 8 + S i) k < 2 ^ 48 := fun k hk => orB_lt k (fun i hi => by have := hH.2 i (by omega); omega)
  refine w_blk 6 (pc' := 7) (ls' := [some (.ref 49), some (.long 0), none, some (.int 0), some (.int 0)]) (sk' := []) (st' := st) (fun _ h => h) ?_
  have key : ∀ (m k : Nat), k + m = a → mW (mMC mT (d + 2)) (0, fun _ => 0) (mAtL P_X8_whoThrewTwice) (some .int) Q 7 [some (.ref 49), some (.long (lI (orB (fun _ => true) (fun i => D i * 8 + S i) k))), none, some (.int (nI (orB (twB D S) D k))), some (.int (nI k))] [] st := by
    intro m
    induction m with
    | zero =>
      intro k hk
      obtain rfl : a = k := by omega
      refine w_blk 3 (pc' := 13) (ls' := [some (.ref 49), some (.long (lI (orB (fun _ => true) (fun i => D i * 8 + S i) a))), none, some (.int (nI (orB (twB D S) D a))), some (.int (nI a))]) (sk' := [.int (st.1 49 0), .int (nI a)]) (st' := st) (fun _ h => h) ?_
      rw [hP.1]
      refine w_cmp_ge rfl (fun _ => ?_) (fun hno => absurd (Int32.le_refl _) hno)
      refine w_blk 1 (pc' := 59) (ls' := [some (.ref 49), some (.long (lI (orB (fun _ => true) (fun i => D i * 8 + S i) a))), none, some (.int (nI (orB (twB D S) D a))), some (.int (nI a))]) (sk' := [.int (nI (orB (twB D S) D a))]) (st' := st) (fun _ h => h) ?_
      exact w_iret rfl rfl rfl hq
    | succ m ih =>
      intro k hk
      have hk2 : k < a := by omega
      have hHk := hH.2 k hk2
      have hs1 := hsn k (by omega)
      have htw : (orB (fun _ => true) (fun i => D i * 8 + S i) k).testBit (D k * 8 + S k) = true ↔ twB D S k = true := seen_tw (fun i hi => (hH.2 i (by omega)).2.2)
      refine w_blk 3 (pc' := 13) (ls' := [some (.ref 49), some (.long (lI (orB (fun _ => true) (fun i => D i * 8 + S i) k))), none, some (.int (nI (orB (twB D S) D k))), some (.int (nI k))]) (sk' := [.int (st.1 49 0), .int (nI k)]) (st' := st) (fun _ h => h) ?_
      rw [hP.1]
      refine w_cmp_ge rfl (fun hno => absurd hno (nI_ge hk2 (by omega))) (fun _ => ?_)
      refine w_blk 3 (pc' := 20) (ls' := [some (.ref 49), some (.long (lI (orB (fun _ => true) (fun i => D i * 8 + S i) k))), none, some (.int (nI (orB (twB D S) D k))), some (.int (nI k))]) (sk' := [.int (nI k), .ref 49, .long (lI (orB (fun _ => true) (fun i => D i * 8 + S i) k))]) (st' := st) (fun _ h => h) ?_
      refine w_callV (As := [.ref 49, .int (nI k)]) (rest := [.long (lI (orB (fun _ => true) (fun i => D i * 8 + S i) k))]) rfl rfl rfl (Nat.le_of_ble_eq_true rfl) (Nat.le_of_ble_eq_true rfl) (by first | exact Or.inl ⟨rfl, rfl⟩ | exact Or.inr ⟨rfl, rfl⟩) (c_pairOf (d + 0) a R D S k st hP hH (by omega)) ?_
      refine w_blk 1 (pc' := 24) (ls' := [some (.ref 49), some (.long (lI (orB (fun _ => true) (fun i => D i * 8 + S i) k))), none, some (.int (nI (orB (twB D S) D k))), some (.int (nI k))]) (sk' := [.long ((lI (orB (fun _ => true) (fun i => D i * 8 + S i) k)) &&& (lI (2 ^ (D k * 8 + S k))))]) (st' := st) (fun _ h => h) ?_
      rw [lI_and]
      refine w_blk 2 (pc' := 26) (ls' := [some (.ref 49), some (.long (lI (orB (fun _ => true) (fun i => D i * 8 + S i) k))), none, some (.int (nI (orB (twB D S) D k))), some (.int (nI k))]) (sk' := [.int (lg_cmp (lI (orB (fun _ => true) (fun i => D i * 8 + S i) k &&& 2 ^ (D k * 8 + S k))) 0)]) (st' := st) (fun _ h => h) ?_
      refine w_if_eq rfl (fun h0 => ?_) (fun h0 => ?_)
      · have hz : ¬ (orB (fun _ => true) (fun i => D i * 8 + S i) k).testBit (D k * 8 + S k) = true := and_pow0.mp ((lI_z (Nat.lt_of_le_of_lt Nat.and_le_left (by omega))).mp h0)
        refine w_blk 3 (pc' := 47) (ls' := [some (.ref 49), some (.long (lI (orB (fun _ => true) (fun i => D i * 8 + S i) k))), none, some (.int (nI (orB (twB D S) D k))), some (.int (nI k))]) (sk' := [.int (nI k), .ref 49, .long (lI (orB (fun _ => true) (fun i => D i * 8 + S i) k))]) (st' := st) (fun _ h => h) ?_
        refine w_callV (As := [.ref 49, .int (nI k)]) (rest := [.long (lI (orB (fun _ => true) (fun i => D i * 8 + S i) k))]) rfl rfl rfl (Nat.le_of_ble_eq_true rfl) (Nat.le_of_ble_eq_true rfl) (by first | exact Or.inl ⟨rfl, rfl⟩ | exact Or.inr ⟨rfl, rfl⟩) (c_pairOf (d + 0) a R D S k st hP hH (by omega)) ?_
        refine w_blk 1 (pc' := 51) (ls' := [some (.ref 49), some (.long (lI (orB (fun _ => true) (fun i => D i * 8 + S i) k))), none, some (.int (nI (orB (twB D S) D k))), some (.int (nI k))]) (sk' := [.long ((lI (orB (fun _ => true) (fun i => D i * 8 + S i) k)) ||| (lI (2 ^ (D k * 8 + S k))))]) (st' := st) (fun _ h => h) ?_
        rw [lI_or]
        refine w_blk 2 (pc' := 55) (ls' := [some (.ref 49), some (.long (lI (orB (fun _ => true) (fun i => D i * 8 + S i) k ||| 2 ^ (D k * 8 + S k)))), none, some (.int (nI (orB (twB D S) D k))), some (.int ((nI k) + 1))]) (sk' := []) (st' := st) (fun _ h => h) ?_
        rw [show ((nI k) + 1) = nI (k + 1) from nI_add k 1]
        refine w_blk 1 (pc' := 7) (ls' := [some (.ref 49), some (.long (lI (orB (fun _ => true) (fun i => D i * 8 + S i) k ||| 2 ^ (D k * 8 + S k)))), none, some (.int (nI (orB (twB D S) D k))), some (.int (nI (k + 1)))]) (sk' := []) (st' := st) (fun _ h => h) ?_
        exact (by have hh := ih (k + 1) (by omega); rw [show orB (fun _ => true) (fun i => D i * 8 + S i) (k + 1) = orB (fun _ => true) (fun i => D i * 8 + S i) k ||| 2 ^ (D k * 8 + S k) from if_pos rfl, show orB (twB D S) D (k + 1) = orB (twB D S) D k from if_neg (fun e => hz (htw.mpr e))] at hh; exact hh)
      · have hz :  (orB (fun _ => true) (fun i => D i * 8 + S i) k).testBit (D k * 8 + S k) = true := Decidable.not_not.mp (fun hh => h0 ((lI_z (Nat.lt_of_le_of_lt Nat.and_le_left (by omega))).mpr (and_pow0.mpr hh)))
        refine w_blk 5 (pc' := 37) (ls' := [some (.ref 49), some (.long (lI (orB (fun _ => true) (fun i => D i * 8 + S i) k))), none, some (.int (nI (orB (twB D S) D k))), some (.int (nI k))]) (sk' := [.int (nI k), .ref 51, .int 1, .int (nI (orB (twB D S) D k))]) (st' := st) (fun _ h => h) ?_
        refine w_callS (As := [.ref 51, .int (nI k)]) (rest := [.int 1, .int (nI (orB (twB D S) D k))]) rfl rfl rfl (Nat.le_of_ble_eq_true rfl) (Nat.le_of_ble_eq_true rfl) (c_cellK (d + 1) 51 30 k st (by omega) (by decide) rfl) ?_
        rw [(hP.2 k (by omega)).2.1]
        refine w_blk 1 (pc' := 41) (ls' := [some (.ref 49), some (.long (lI (orB (fun _ => true) (fun i => D i * 8 + S i) k))), none, some (.int (nI (orB (twB D S) D k))), some (.int (nI k))]) (sk' := [.int (1 <<< ((nI (D k)) &&& 31)), .int (nI (orB (twB D S) D k))]) (st' := st) (fun _ h => h) ?_
        rw [show (1 <<< ((nI (D k)) &&& 31)) = nI (2 ^ (D k)) from nI_shl1 (by omega)]
        refine w_blk 1 (pc' := 42) (ls' := [some (.ref 49), some (.long (lI (orB (fun _ => true) (fun i => D i * 8 + S i) k))), none, some (.int (nI (orB (twB D S) D k))), some (.int (nI k))]) (sk' := [.int ((nI (orB (twB D S) D k)) ||| (nI (2 ^ (D k))))]) (st' := st) (fun _ h => h) ?_
        rw [show ((nI (orB (twB D S) D k)) ||| (nI (2 ^ (D k)))) = nI ((orB (twB D S) D k) ||| (2 ^ (D k))) from nI_or (orB (twB D S) D k) (2 ^ (D k))]
        refine w_blk 4 (pc' := 47) (ls' := [some (.ref 49), some (.long (lI (orB (fun _ => true) (fun i => D i * 8 + S i) k))), none, some (.int (nI ((orB (twB D S) D k) ||| (2 ^ (D k))))), some (.int (nI k))]) (sk' := [.int (nI k), .ref 49, .long (lI (orB (fun _ => true) (fun i => D i * 8 + S i) k))]) (st' := st) (fun _ h => h) ?_
        refine w_callV (As := [.ref 49, .int (nI k)]) (rest := [.long (lI (orB (fun _ => true) (fun i => D i * 8 + S i) k))]) rfl rfl rfl (Nat.le_of_ble_eq_true rfl) (Nat.le_of_ble_eq_true rfl) (by first | exact Or.inl ⟨rfl, rfl⟩ | exact Or.inr ⟨rfl, rfl⟩) (c_pairOf (d + 0) a R D S k st hP hH (by omega)) ?_
        refine w_blk 1 (pc' := 51) (ls' := [some (.ref 49), some (.long (lI (orB (fun _ => true) (fun i => D i * 8 + S i) k))), none, some (.int (nI ((orB (twB D S) D k) ||| (2 ^ (D k))))), some (.int (nI k))]) (sk' := [.long ((lI (orB (fun _ => true) (fun i => D i * 8 + S i) k)) ||| (lI (2 ^ (D k * 8 + S k))))]) (st' := st) (fun _ h => h) ?_
        rw [lI_or]
        refine w_blk 2 (pc' := 55) (ls' := [some (.ref 49), some (.long (lI (orB (fun _ => true) (fun i => D i * 8 + S i) k ||| 2 ^ (D k * 8 + S k)))), none, some (.int (nI ((orB (twB D S) D k) ||| (2 ^ (D k))))), some (.int ((nI k) + 1))]) (sk' := []) (st' := st) (fun _ h => h) ?_
        rw [show ((nI k) + 1) = nI (k + 1) from nI_add k 1]
        refine w_blk 1 (pc' := 7) (ls' := [some (.ref 49), some (.long (lI (orB (fun _ => true) (fun i => D i * 8 + S i) k ||| 2 ^ (D k * 8 + S k)))), none, some (.int (nI ((orB (twB D S) D k) ||| (2 ^ (D k))))), some (.int (nI (k + 1)))]) (sk' := []) (st' := st) (fun _ h => h) ?_
        exact (by have hh := ih (k + 1) (by omega); rw [show orB (fun _ => true) (fun i => D i * 8 + S i) (k + 1) = orB (fun _ => true) (fun i => D i * 8 + S i) k ||| 2 ^ (D k * 8 + S k) from if_pos rfl, show orB (twB D S) D (k + 1) = (orB (twB D S) D k) ||| (2 ^ (D k)) from if_pos (htw.mp hz)] at hh; exact hh)
  exact key (a - 0) 0 (by omega)
theorem pop_le8 (n : Nat) : pop n 8 ≤ 8 := by
  have h : ∀ k, pop n k ≤ k := by
    intro k
    induction k with
    | zero => exact Nat.le_refl _
    | succ k ih =>
      show pop n k + (if n.testBit k = true then 1 else 0) ≤ _
      split <;> omega
  exact h 8
set_option maxRecDepth 20000 in
/-- isFalse(r) -/
theorem c_isFalse (d : Nat) (a : Nat) (R D S : Nat → Nat) (r : Nat) (st : mSt) (hP : XT st a R D S) (hH : TB a R D S) (hr : r ≤ 99) : mMC mT (d + 3) 84 [.ref 49, .int (nI r)] st (some (.int (pI (frB R D S a r = true)))) st := by
  refine mI_X8_isFalse (d := d + 2) (Nat.le_of_ble_eq_true rfl) (fun Q hq => ?_)
  show mW (mMC mT (d + 2)) (0, fun _ => 0) (mAtL P_X8_isFalse) (some .boolean) Q 0 [some (.ref 49), some (.int (nI r)), none, none, none, none, none] [] st
  have ha := hH.1
  have hch := cheat_rows (R := R) (D := D) (S := S) (a := a) (r := r) (fun i hi => (hH.2 i hi).2.1) (fun i hi => (hH.2 i hi).2.2)
  have hp1 : orB (inR R r) (fun i => D i * 8 + S i) a < 2 ^ 48 := orB_lt a (fun i hi => by have := hH.2 i hi; omega)
  have hp2 : orB (inR R r) D a < 2 ^ 8 := orB_lt a (fun i hi => by have := hH.2 i hi; omega)
  have hp3 : orB (inR R r) S a < 2 ^ 8 := orB_lt a (fun i hi => by have := hH.2 i hi; omega)
  have hc1 := (lbc hp1).2.2.2.2
  have hc2 := pop_le8 (orB (inR R r) D a)
  have hc3 := pop_le8 (orB (inR R r) S a)
  refine w_blk 8 (pc' := 11) (ls' := [some (.ref 49), some (.int (nI r)), some (.long 0), none, some (.int 0), some (.int 0), some (.int 0)]) (sk' := []) (st' := st) (fun _ h => h) ?_
  have key : ∀ (m k : Nat), k + m = a → mW (mMC mT (d + 2)) (0, fun _ => 0) (mAtL P_X8_isFalse) (some .boolean) Q 11 [some (.ref 49), some (.int (nI r)), some (.long (lI (orB (inR R r) (fun i => D i * 8 + S i) k))), none, some (.int (nI (orB (inR R r) D k))), some (.int (nI (orB (inR R r) S k))), some (.int (nI k))] [] st := by
    intro m
    induction m with
    | zero =>
      intro k hk
      obtain rfl : a = k := by omega
      refine w_blk 3 (pc' := 17) (ls' := [some (.ref 49), some (.int (nI r)), some (.long (lI (orB (inR R r) (fun i => D i * 8 + S i) a))), none, some (.int (nI (orB (inR R r) D a))), some (.int (nI (orB (inR R r) S a))), some (.int (nI a))]) (sk' := [.int (st.1 49 0), .int (nI a)]) (st' := st) (fun _ h => h) ?_
      rw [hP.1]
      refine w_cmp_ge rfl (fun _ => ?_) (fun hno => absurd (Int32.le_refl _) hno)
      refine w_blk 1 (pc' := 81) (ls' := [some (.ref 49), some (.int (nI r)), some (.long (lI (orB (inR R r) (fun i => D i * 8 + S i) a))), none, some (.int (nI (orB (inR R r) D a))), some (.int (nI (orB (inR R r) S a))), some (.int (nI a))]) (sk' := [.long (lI (orB (inR R r) (fun i => D i * 8 + S i) a))]) (st' := st) (fun _ h => h) ?_
      refine w_callS (As := [.long (lI (orB (inR R r) (fun i => D i * 8 + S i) a))]) (rest := []) rfl rfl rfl (Nat.le_of_ble_eq_true rfl) (Nat.le_of_ble_eq_true rfl) (c_lbc (d + 1) _ st (by omega)) ?_
      refine w_blk 3 (pc' := 90) (ls' := [some (.ref 49), some (.int (nI r)), some (.long (lI (orB (inR R r) (fun i => D i * 8 + S i) a))), none, some (.int (nI (orB (inR R r) D a))), some (.int (nI (orB (inR R r) S a))), some (.int (nI (pop (orB (inR R r) (fun i => D i * 8 + S i) a) 48)))]) (sk' := [.int (nI (orB (inR R r) D a)), .int (nI (pop (orB (inR R r) (fun i => D i * 8 + S i) a) 48))]) (st' := st) (fun _ h => h) ?_
      refine w_callS (As := [.int (nI (orB (inR R r) D a))]) (rest := [.int (nI (pop (orB (inR R r) (fun i => D i * 8 + S i) a) 48))]) rfl rfl rfl (Nat.le_of_ble_eq_true rfl) (Nat.le_of_ble_eq_true rfl) (c_bitCountK (d + 1) (orB (inR R r) D a) st (by omega)) ?_
      refine w_cmp_gt rfl (fun h1 => ?_) (fun h1 => ?_)
      · replace h1 : pop (orB (inR R r) D a) 8 < pop (orB (inR R r) (fun i => D i * 8 + S i) a) 48 := (nI_ltI (a := (pop (orB (inR R r) D a) 8)) (b := (pop (orB (inR R r) (fun i => D i * 8 + S i) a) 48)) (by omega) (by omega)).mp h1
        refine w_blk 2 (pc' := 111) (ls' := [some (.ref 49), some (.int (nI r)), some (.long (lI (orB (inR R r) (fun i => D i * 8 + S i) a))), none, some (.int (nI (orB (inR R r) D a))), some (.int (nI (orB (inR R r) S a))), some (.int (nI (pop (orB (inR R r) (fun i => D i * 8 + S i) a) 48)))]) (sk' := [.int 1]) (st' := st) (fun _ h => h) ?_
        rw [show pI (frB R D S a r = true) = 1 from pI_t (hch.mp (by first | exact Or.inl h1 | exact Or.inr (by omega)))] at hq
        exact w_iret rfl rfl rfl hq
      · replace h1 : ¬ (pop (orB (inR R r) D a) 8 < pop (orB (inR R r) (fun i => D i * 8 + S i) a) 48) := fun hh => h1 ((nI_ltI (a := (pop (orB (inR R r) D a) 8)) (b := (pop (orB (inR R r) (fun i => D i * 8 + S i) a) 48)) (by omega) (by omega)).mpr hh)
        refine w_blk 2 (pc' := 100) (ls' := [some (.ref 49), some (.int (nI r)), some (.long (lI (orB (inR R r) (fun i => D i * 8 + S i) a))), none, some (.int (nI (orB (inR R r) D a))), some (.int (nI (orB (inR R r) S a))), some (.int (nI (pop (orB (inR R r) (fun i => D i * 8 + S i) a) 48)))]) (sk' := [.int (nI (orB (inR R r) S a)), .int (nI (pop (orB (inR R r) (fun i => D i * 8 + S i) a) 48))]) (st' := st) (fun _ h => h) ?_
        refine w_callS (As := [.int (nI (orB (inR R r) S a))]) (rest := [.int (nI (pop (orB (inR R r) (fun i => D i * 8 + S i) a) 48))]) rfl rfl rfl (Nat.le_of_ble_eq_true rfl) (Nat.le_of_ble_eq_true rfl) (c_bitCountK (d + 1) (orB (inR R r) S a) st (by omega)) ?_
        refine w_cmp_le rfl (fun h2 => ?_) (fun h2 => ?_)
        · replace h2 : pop (orB (inR R r) (fun i => D i * 8 + S i) a) 48 ≤ pop (orB (inR R r) S a) 8 := (nI_leI (a := (pop (orB (inR R r) (fun i => D i * 8 + S i) a) 48)) (b := (pop (orB (inR R r) S a) 8)) (by omega) (by omega)).mp h2
          refine w_blk 1 (pc' := 111) (ls' := [some (.ref 49), some (.int (nI r)), some (.long (lI (orB (inR R r) (fun i => D i * 8 + S i) a))), none, some (.int (nI (orB (inR R r) D a))), some (.int (nI (orB (inR R r) S a))), some (.int (nI (pop (orB (inR R r) (fun i => D i * 8 + S i) a) 48)))]) (sk' := [.int 0]) (st' := st) (fun _ h => h) ?_
          rw [show pI (frB R D S a r = true) = 0 from pI_f (fun hh => by have := hch.mpr hh; omega)] at hq
          exact w_iret rfl rfl rfl hq
        · replace h2 : ¬ (pop (orB (inR R r) (fun i => D i * 8 + S i) a) 48 ≤ pop (orB (inR R r) S a) 8) := fun hh => h2 ((nI_leI (a := (pop (orB (inR R r) (fun i => D i * 8 + S i) a) 48)) (b := (pop (orB (inR R r) S a) 8)) (by omega) (by omega)).mpr hh)
          refine w_blk 2 (pc' := 111) (ls' := [some (.ref 49), some (.int (nI r)), some (.long (lI (orB (inR R r) (fun i => D i * 8 + S i) a))), none, some (.int (nI (orB (inR R r) D a))), some (.int (nI (orB (inR R r) S a))), some (.int (nI (pop (orB (inR R r) (fun i => D i * 8 + S i) a) 48)))]) (sk' := [.int 1]) (st' := st) (fun _ h => h) ?_
          rw [show pI (frB R D S a r = true) = 1 from pI_t (hch.mp (by first | exact Or.inl h1 | exact Or.inr (by omega)))] at hq
          exact w_iret rfl rfl rfl hq
    | succ m ih =>
      intro k hk
      have hk2 : k < a := by omega
      have hHk := hH.2 k hk2
      refine w_blk 3 (pc' := 17) (ls' := [some (.ref 49), some (.int (nI r)), some (.long (lI (orB (inR R r) (fun i => D i * 8 + S i) k))), none, some (.int (nI (orB (inR R r) D k))), some (.int (nI (orB (inR R r) S k))), some (.int (nI k))]) (sk' := [.int (st.1 49 0), .int (nI k)]) (st' := st) (fun _ h => h) ?_
      rw [hP.1]
      refine w_cmp_ge rfl (fun hno => absurd hno (nI_ge hk2 (by omega))) (fun _ => ?_)
      refine w_blk 3 (pc' := 26) (ls' := [some (.ref 49), some (.int (nI r)), some (.long (lI (orB (inR R r) (fun i => D i * 8 + S i) k))), none, some (.int (nI (orB (inR R r) D k))), some (.int (nI (orB (inR R r) S k))), some (.int (nI k))]) (sk' := [.int (nI k), .ref 50]) (st' := st) (fun _ h => h) ?_
      refine w_callS (As := [.ref 50, .int (nI k)]) (rest := []) rfl rfl rfl (Nat.le_of_ble_eq_true rfl) (Nat.le_of_ble_eq_true rfl) (c_cellK (d + 1) 50 30 k st (by omega) (by decide) rfl) ?_
      rw [(hP.2 k (by omega)).1]
      refine w_blk 1 (pc' := 30) (ls' := [some (.ref 49), some (.int (nI r)), some (.long (lI (orB (inR R r) (fun i => D i * 8 + S i) k))), none, some (.int (nI (orB (inR R r) D k))), some (.int (nI (orB (inR R r) S k))), some (.int (nI k))]) (sk' := [.int (nI r), .int (nI (R k))]) (st' := st) (fun _ h => h) ?_
      refine w_cmp_ne rfl (fun h1 => ?_) (fun h1 => ?_)
      · replace h1 : ¬ (R k = r) := fun hh => h1 ((nI_eq (a := (R k)) (b := r) (by omega) (by omega)).mpr hh)
        refine w_blk 1 (pc' := 77) (ls' := [some (.ref 49), some (.int (nI r)), some (.long (lI (orB (inR R r) (fun i => D i * 8 + S i) k))), none, some (.int (nI (orB (inR R r) D k))), some (.int (nI (orB (inR R r) S k))), some (.int ((nI k) + 1))]) (sk' := []) (st' := st) (fun _ h => h) ?_
        rw [show ((nI k) + 1) = nI (k + 1) from nI_add k 1]
        refine w_blk 1 (pc' := 11) (ls' := [some (.ref 49), some (.int (nI r)), some (.long (lI (orB (inR R r) (fun i => D i * 8 + S i) k))), none, some (.int (nI (orB (inR R r) D k))), some (.int (nI (orB (inR R r) S k))), some (.int (nI (k + 1)))]) (sk' := []) (st' := st) (fun _ h => h) ?_
        exact (by have hh := ih (k + 1) (by omega); rw [show orB (inR R r) (fun i => D i * 8 + S i) (k + 1) = orB (inR R r) (fun i => D i * 8 + S i) k from if_neg (fun e => h1 (of_decide_eq_true e)), show orB (inR R r) D (k + 1) = orB (inR R r) D k from if_neg (fun e => h1 (of_decide_eq_true e)), show orB (inR R r) S (k + 1) = orB (inR R r) S k from if_neg (fun e => h1 (of_decide_eq_true e))] at hh; exact hh)
      · replace h1 : R k = r := (nI_eq (a := (R k)) (b := r) (by omega) (by omega)).mp (Decidable.not_not.mp h1)
        refine w_blk 3 (pc' := 37) (ls' := [some (.ref 49), some (.int (nI r)), some (.long (lI (orB (inR R r) (fun i => D i * 8 + S i) k))), none, some (.int (nI (orB (inR R r) D k))), some (.int (nI (orB (inR R r) S k))), some (.int (nI k))]) (sk' := [.int (nI k), .ref 49, .long (lI (orB (inR R r) (fun i => D i * 8 + S i) k))]) (st' := st) (fun _ h => h) ?_
        refine w_callV (As := [.ref 49, .int (nI k)]) (rest := [.long (lI (orB (inR R r) (fun i => D i * 8 + S i) k))]) rfl rfl rfl (Nat.le_of_ble_eq_true rfl) (Nat.le_of_ble_eq_true rfl) (by first | exact Or.inl ⟨rfl, rfl⟩ | exact Or.inr ⟨rfl, rfl⟩) (c_pairOf (d + 0) a R D S k st hP hH (by omega)) ?_
        refine w_blk 1 (pc' := 41) (ls' := [some (.ref 49), some (.int (nI r)), some (.long (lI (orB (inR R r) (fun i => D i * 8 + S i) k))), none, some (.int (nI (orB (inR R r) D k))), some (.int (nI (orB (inR R r) S k))), some (.int (nI k))]) (sk' := [.long ((lI (orB (inR R r) (fun i => D i * 8 + S i) k)) ||| (lI (2 ^ (D k * 8 + S k))))]) (st' := st) (fun _ h => h) ?_
        rw [lI_or]
        refine w_blk 6 (pc' := 51) (ls' := [some (.ref 49), some (.int (nI r)), some (.long (lI (orB (inR R r) (fun i => D i * 8 + S i) k ||| 2 ^ (D k * 8 + S k)))), none, some (.int (nI (orB (inR R r) D k))), some (.int (nI (orB (inR R r) S k))), some (.int (nI k))]) (sk' := [.int (nI k), .ref 51, .int 1, .int (nI (orB (inR R r) D k))]) (st' := st) (fun _ h => h) ?_
        refine w_callS (As := [.ref 51, .int (nI k)]) (rest := [.int 1, .int (nI (orB (inR R r) D k))]) rfl rfl rfl (Nat.le_of_ble_eq_true rfl) (Nat.le_of_ble_eq_true rfl) (c_cellK (d + 1) 51 30 k st (by omega) (by decide) rfl) ?_
        rw [(hP.2 k (by omega)).2.1]
        refine w_blk 1 (pc' := 55) (ls' := [some (.ref 49), some (.int (nI r)), some (.long (lI (orB (inR R r) (fun i => D i * 8 + S i) k ||| 2 ^ (D k * 8 + S k)))), none, some (.int (nI (orB (inR R r) D k))), some (.int (nI (orB (inR R r) S k))), some (.int (nI k))]) (sk' := [.int (1 <<< ((nI (D k)) &&& 31)), .int (nI (orB (inR R r) D k))]) (st' := st) (fun _ h => h) ?_
        rw [show (1 <<< ((nI (D k)) &&& 31)) = nI (2 ^ (D k)) from nI_shl1 (by omega)]
        refine w_blk 1 (pc' := 56) (ls' := [some (.ref 49), some (.int (nI r)), some (.long (lI (orB (inR R r) (fun i => D i * 8 + S i) k ||| 2 ^ (D k * 8 + S k)))), none, some (.int (nI (orB (inR R r) D k))), some (.int (nI (orB (inR R r) S k))), some (.int (nI k))]) (sk' := [.int ((nI (orB (inR R r) D k)) ||| (nI (2 ^ (D k))))]) (st' := st) (fun _ h => h) ?_
        rw [show ((nI (orB (inR R r) D k)) ||| (nI (2 ^ (D k)))) = nI ((orB (inR R r) D k) ||| (2 ^ (D k))) from nI_or (orB (inR R r) D k) (2 ^ (D k))]
        refine w_blk 6 (pc' := 67) (ls' := [some (.ref 49), some (.int (nI r)), some (.long (lI (orB (inR R r) (fun i => D i * 8 + S i) k ||| 2 ^ (D k * 8 + S k)))), none, some (.int (nI ((orB (inR R r) D k) ||| (2 ^ (D k))))), some (.int (nI (orB (inR R r) S k))), some (.int (nI k))]) (sk' := [.int (nI k), .ref 52, .int 1, .int (nI (orB (inR R r) S k))]) (st' := st) (fun _ h => h) ?_
        refine w_callS (As := [.ref 52, .int (nI k)]) (rest := [.int 1, .int (nI (orB (inR R r) S k))]) rfl rfl rfl (Nat.le_of_ble_eq_true rfl) (Nat.le_of_ble_eq_true rfl) (c_cellK (d + 1) 52 30 k st (by omega) (by decide) rfl) ?_
        rw [(hP.2 k (by omega)).2.2]
        refine w_blk 1 (pc' := 71) (ls' := [some (.ref 49), some (.int (nI r)), some (.long (lI (orB (inR R r) (fun i => D i * 8 + S i) k ||| 2 ^ (D k * 8 + S k)))), none, some (.int (nI ((orB (inR R r) D k) ||| (2 ^ (D k))))), some (.int (nI (orB (inR R r) S k))), some (.int (nI k))]) (sk' := [.int (1 <<< ((nI (S k)) &&& 31)), .int (nI (orB (inR R r) S k))]) (st' := st) (fun _ h => h) ?_
        rw [show (1 <<< ((nI (S k)) &&& 31)) = nI (2 ^ (S k)) from nI_shl1 (by omega)]
        refine w_blk 1 (pc' := 72) (ls' := [some (.ref 49), some (.int (nI r)), some (.long (lI (orB (inR R r) (fun i => D i * 8 + S i) k ||| 2 ^ (D k * 8 + S k)))), none, some (.int (nI ((orB (inR R r) D k) ||| (2 ^ (D k))))), some (.int (nI (orB (inR R r) S k))), some (.int (nI k))]) (sk' := [.int ((nI (orB (inR R r) S k)) ||| (nI (2 ^ (S k))))]) (st' := st) (fun _ h => h) ?_
        rw [show ((nI (orB (inR R r) S k)) ||| (nI (2 ^ (S k)))) = nI ((orB (inR R r) S k) ||| (2 ^ (S k))) from nI_or (orB (inR R r) S k) (2 ^ (S k))]
        refine w_blk 2 (pc' := 77) (ls' := [some (.ref 49), some (.int (nI r)), some (.long (lI (orB (inR R r) (fun i => D i * 8 + S i) k ||| 2 ^ (D k * 8 + S k)))), none, some (.int (nI ((orB (inR R r) D k) ||| (2 ^ (D k))))), some (.int (nI ((orB (inR R r) S k) ||| (2 ^ (S k))))), some (.int ((nI k) + 1))]) (sk' := []) (st' := st) (fun _ h => h) ?_
        rw [show ((nI k) + 1) = nI (k + 1) from nI_add k 1]
        refine w_blk 1 (pc' := 11) (ls' := [some (.ref 49), some (.int (nI r)), some (.long (lI (orB (inR R r) (fun i => D i * 8 + S i) k ||| 2 ^ (D k * 8 + S k)))), none, some (.int (nI ((orB (inR R r) D k) ||| (2 ^ (D k))))), some (.int (nI ((orB (inR R r) S k) ||| (2 ^ (S k))))), some (.int (nI (k + 1)))]) (sk' := []) (st' := st) (fun _ h => h) ?_
        exact (by have hh := ih (k + 1) (by omega); rw [show orB (inR R r) (fun i => D i * 8 + S i) (k + 1) = orB (inR R r) (fun i => D i * 8 + S i) k ||| 2 ^ (D k * 8 + S k) from if_pos (decide_eq_true (show R k = r by omega)), show orB (inR R r) D (k + 1) = (orB (inR R r) D k) ||| (2 ^ (D k)) from if_pos (decide_eq_true (show R k = r by omega)), show orB (inR R r) S (k + 1) = (orB (inR R r) S k) ||| (2 ^ (S k)) from if_pos (decide_eq_true (show R k = r by omega))] at hh; exact hh)
  exact key (a - 0) 0 (by omega)
set_option maxRecDepth 20000 in
/-- falseRounds() -/
theorem c_falseRounds (d : Nat) (a : Nat) (R D S : Nat → Nat) (st : mSt) (hP : XT st a R D S) (hH : TB a R D S) : mMC mT (d + 4) 83 [.ref 49] st (some (.int (nI (fc R D S a 100)))) st := by
  refine mI_X8_falseRounds (d := d + 3) (Nat.le_of_ble_eq_true rfl) (fun Q hq => ?_)
  show mW (mMC mT (d + 3)) (0, fun _ => 0) (mAtL P_X8_falseRounds) (some .int) Q 0 [some (.ref 49), none, none] [] st
  refine w_blk 4 (pc' := 4) (ls' := [some (.ref 49), some (.int 0), some (.int 0)]) (sk' := []) (st' := st) (fun _ h => h) ?_
  have key : ∀ (m k : Nat), k + m = 100 → mW (mMC mT (d + 3)) (0, fun _ => 0) (mAtL P_X8_falseRounds) (some .int) Q 4 [some (.ref 49), some (.int (nI (fc R D S a k))), some (.int (nI k))] [] st := by
    intro m
    induction m with
    | zero =>
      intro k hk
      obtain rfl : 100 = k := by omega
      refine w_blk 2 (pc' := 7) (ls' := [some (.ref 49), some (.int (nI (fc R D S a 100))), some (.int (nI 100))]) (sk' := [.int 99, .int (nI 100)]) (st' := st) (fun _ h => h) ?_
      refine w_cmp_gt rfl (fun _ => ?_) (fun hno => absurd (by decide) hno)
      refine w_blk 1 (pc' := 28) (ls' := [some (.ref 49), some (.int (nI (fc R D S a 100))), some (.int (nI 100))]) (sk' := [.int (nI (fc R D S a 100))]) (st' := st) (fun _ h => h) ?_
      exact w_iret rfl rfl rfl hq
    | succ m ih =>
      intro k hk
      have hk2 : k < 100 := by omega
      have hfk := fc_le R D S a k
      refine w_blk 2 (pc' := 7) (ls' := [some (.ref 49), some (.int (nI (fc R D S a k))), some (.int (nI k))]) (sk' := [.int 99, .int (nI k)]) (st' := st) (fun _ h => h) ?_
      refine w_cmp_gt rfl (fun hno => absurd hno (fun hh => by have := (nI_ltI (a := 99) (b := k) (by omega) (by omega)).mp hh; omega)) (fun _ => ?_)
      refine w_blk 2 (pc' := 12) (ls' := [some (.ref 49), some (.int (nI (fc R D S a k))), some (.int (nI k))]) (sk' := [.int (nI k), .ref 49]) (st' := st) (fun _ h => h) ?_
      refine w_callV (As := [.ref 49, .int (nI k)]) (rest := []) rfl rfl rfl (Nat.le_of_ble_eq_true rfl) (Nat.le_of_ble_eq_true rfl) (by first | exact Or.inl ⟨rfl, rfl⟩ | exact Or.inr ⟨rfl, rfl⟩) (c_isFalse (d + 0) a R D S k st hP hH (by omega)) ?_
      refine w_if_eq rfl (fun h1 => ?_) (fun h1 => ?_)
      · replace h1 := pI_eq0.mp h1
        refine w_blk 1 (pc' := 24) (ls' := [some (.ref 49), some (.int (nI (fc R D S a k))), some (.int ((nI k) + 1))]) (sk' := []) (st' := st) (fun _ h => h) ?_
        rw [show ((nI k) + 1) = nI (k + 1) from nI_add k 1]
        refine w_blk 1 (pc' := 4) (ls' := [some (.ref 49), some (.int (nI (fc R D S a k))), some (.int (nI (k + 1)))]) (sk' := []) (st' := st) (fun _ h => h) ?_
        exact (by have hh := ih (k + 1) (by omega); rw [show fc R D S a (k + 1) = fc R D S a k from (congrArg (fc R D S a k + ·) (if_neg h1)).trans (Nat.add_zero _)] at hh; exact hh)
      · replace h1 := pI_ne.mp h1
        refine w_blk 1 (pc' := 21) (ls' := [some (.ref 49), some (.int ((nI (fc R D S a k)) + 1)), some (.int (nI k))]) (sk' := []) (st' := st) (fun _ h => h) ?_
        rw [show ((nI (fc R D S a k)) + 1) = nI ((fc R D S a k) + 1) from nI_add (fc R D S a k) 1]
        refine w_blk 1 (pc' := 24) (ls' := [some (.ref 49), some (.int (nI ((fc R D S a k) + 1))), some (.int ((nI k) + 1))]) (sk' := []) (st' := st) (fun _ h => h) ?_
        rw [show ((nI k) + 1) = nI (k + 1) from nI_add k 1]
        refine w_blk 1 (pc' := 4) (ls' := [some (.ref 49), some (.int (nI ((fc R D S a k) + 1))), some (.int (nI (k + 1)))]) (sk' := []) (st' := st) (fun _ h => h) ?_
        exact (by have hh := ih (k + 1) (by omega); rw [show fc R D S a (k + 1) = (fc R D S a k) + 1 from congrArg (fc R D S a k + ·) (if_pos h1)] at hh; exact hh)
  exact key (100 - 0) 0 (by omega)
set_option maxRecDepth 20000 in
/-- cheats -/
theorem x_cheats (d : Nat) (a : Nat) (R D S : Nat → Nat) (w : Int32) (st : mSt) (hP : XT st a R D S) (hH : TB a R D S) : mMC mT (d + 5) 108 [.ref 0, .int w] st (some (.int (sp_cheats a R D S w))) st := by
  refine mI_X9_cheats (d := d + 4) (Nat.le_of_ble_eq_true rfl) (fun Q hq => ?_)
  show mW (mMC mT (d + 4)) (0, fun _ => 0) (mAtL P_X9_cheats) (some .int) Q 0 [some (.ref 0), some (.int w)] [] st
  refine w_blk 1 (pc' := 1) (ls' := [some (.ref 0), some (.int w)]) (sk' := [.int w]) (st' := st) (fun _ h => h) ?_
  by_cases hw0 : w = 0
  · subst hw0
    refine w_lookup (o := 27) (t := 28) rfl (by decide) (by decide) rfl ?_
    refine w_blk 2 (pc' := 32) (ls' := [some (.ref 0), some (.int 0)]) (sk' := [.ref 49]) (st' := st) (fun _ h => h) ?_
    refine w_callV (As := [.ref 49]) (rest := []) rfl rfl rfl (Nat.le_of_ble_eq_true rfl) (Nat.le_of_ble_eq_true rfl) (by first | exact Or.inl ⟨rfl, rfl⟩ | exact Or.inr ⟨rfl, rfl⟩) (c_twice (d + 1) a R D S st hP hH) ?_
    rw [show sp_cheats a R D S 0 = (nI (orB (twB D S) D a)) from if_pos rfl] at hq
    exact w_iret rfl rfl rfl hq
  · by_cases hw1 : w = 1
    · subst hw1
      refine w_lookup (o := 35) (t := 36) rfl (by decide) (by decide) rfl ?_
      refine w_blk 2 (pc' := 40) (ls' := [some (.ref 0), some (.int 1)]) (sk' := [.ref 49]) (st' := st) (fun _ h => h) ?_
      refine w_callV (As := [.ref 49]) (rest := []) rfl rfl rfl (Nat.le_of_ble_eq_true rfl) (Nat.le_of_ble_eq_true rfl) (by first | exact Or.inl ⟨rfl, rfl⟩ | exact Or.inr ⟨rfl, rfl⟩) (c_falseRounds (d + 0) a R D S st hP hH) ?_
      rw [show sp_cheats a R D S 1 = (nI (fc R D S a 100)) from (if_neg (by decide)).trans (if_pos rfl)] at hq
      exact w_iret rfl rfl rfl hq
    · refine w_lookup (o := 43) (t := 44) rfl (by decide) ((lv_osw hw0 rfl).trans ((lv_osw hw1 rfl).trans rfl)) rfl ?_
      refine w_blk 1 (pc' := 45) (ls' := [some (.ref 0), some (.int w)]) (sk' := [.int (-1)]) (st' := st) (fun _ h => h) ?_
      rw [show sp_cheats a R D S w = (-1) from (if_neg hw0).trans (if_neg hw1)] at hq
      exact w_iret rfl rfl rfl hq
theorem or_step {A : Bool} {f : Nat → Bool} {j : Nat} : ((A || hasB f (j + 1)) = true) ↔ ((A || hasB f j) = true ∨ f j = true) := by
  show ((A || (hasB f j || f j)) = true) ↔ _
  rw [← Bool.or_assoc, Bool.or_eq_true (A || hasB f j)]
def twI (D S : Nat → Nat) (i acc j : Nat) : Nat := if hasB (fun j => decide (D i = D j) && decide (S i = S j)) j = true then acc ||| 2 ^ D i else acc
theorem twI_yes {D S : Nat → Nat} {i acc j : Nat} (h : D i = D j ∧ S i = S j) : twI D S i acc (j + 1) = twI D S i acc j ||| 2 ^ D i := by
  have e : hasB (fun j => decide (D i = D j) && decide (S i = S j)) (j + 1) = true := by
    show (hasB (fun j => decide (D i = D j) && decide (S i = S j)) j || (decide (D i = D j) && decide (S i = S j))) = true
    rw [decide_eq_true h.1, decide_eq_true h.2, Bool.and_self, Bool.or_true]
  rw [show twI D S i acc (j + 1) = acc ||| 2 ^ D i from if_pos e]
  unfold twI
  split
  · rw [Nat.or_assoc, Nat.or_self]
  · rfl
theorem twI_no {D S : Nat → Nat} {i acc j : Nat} (h : ¬ (D i = D j ∧ S i = S j)) : twI D S i acc (j + 1) = twI D S i acc j ||| 0 := by
  have e : hasB (fun j => decide (D i = D j) && decide (S i = S j)) (j + 1) = hasB (fun j => decide (D i = D j) && decide (S i = S j)) j := by
    show (hasB (fun j => decide (D i = D j) && decide (S i = S j)) j || (decide (D i = D j) && decide (S i = S j))) = _
    rw [show (decide (D i = D j) && decide (S i = S j)) = false from by
      rw [Bool.and_eq_false_iff]
      by_cases h1 : D i = D j
      · exact Or.inr (decide_eq_false (fun h2 => h ⟨h1, h2⟩))
      · exact Or.inl (decide_eq_false h1), Bool.or_false]
  unfold twI
  rw [e, Nat.or_zero]
set_option maxRecDepth 20000 in
/-- isFalse(r) -/
theorem m_isFalse (d : Nat) (a : Nat) (R D S : Nat → Nat) (r : Nat) (st : mSt) (hP : MT st a R D S) (hH : TB a R D S) (hr : r ≤ 99) : mMC mT (d + 1) 182 [.ref 53, .int (nI r)] st (some (.int (pI (frB R D S a r = true)))) st := by
  refine mI_X10_isFalse (d := d + 0) (Nat.le_of_ble_eq_true rfl) (fun Q hq => ?_)
  show mW (mMC mT (d + 0)) (0, fun _ => 0) (mAtL P_X10_isFalse) (some .boolean) Q 0 [some (.ref 53), some (.int (nI r)), none, none, none] [] st
  have ha := hH.1
  refine w_blk 4 (pc' := 4) (ls' := [some (.ref 53), some (.int (nI r)), some (.int 0), some (.int 0), none]) (sk' := []) (st' := st) (fun _ h => h) ?_
  have key : ∀ (m k : Nat), k + m = a → ∀ (l4 : Option Value), mW (mMC mT (d + 0)) (0, fun _ => 0) (mAtL P_X10_isFalse) (some .boolean) Q 4 [some (.ref 53), some (.int (nI r)), some (.int (pI (frB R D S k r = true))), some (.int (nI k)), l4] [] st := by
    intro m
    induction m with
    | zero =>
      intro k hk l4
      obtain rfl : a = k := by omega
      refine w_blk 3 (pc' := 9) (ls' := [some (.ref 53), some (.int (nI r)), some (.int (pI (frB R D S a r = true))), some (.int (nI a)), l4]) (sk' := [.int (st.1 53 38), .int (nI a)]) (st' := st) (fun _ h => h) ?_
      rw [hP.1]
      refine w_cmp_ge rfl (fun _ => ?_) (fun hno => absurd (Int32.le_refl _) hno)
      refine w_blk 1 (pc' := 110) (ls' := [some (.ref 53), some (.int (nI r)), some (.int (pI (frB R D S a r = true))), some (.int (nI a)), l4]) (sk' := [.int (pI (frB R D S a r = true))]) (st' := st) (fun _ h => h) ?_
      exact w_iret rfl rfl (nar_pI _) hq
    | succ m ih =>
      intro k hk l4
      have hk2 : k < a := by omega
      have hHk := hH.2 k hk2
      refine w_blk 3 (pc' := 9) (ls' := [some (.ref 53), some (.int (nI r)), some (.int (pI (frB R D S k r = true))), some (.int (nI k)), l4]) (sk' := [.int (st.1 53 38), .int (nI k)]) (st' := st) (fun _ h => h) ?_
      rw [hP.1]
      refine w_cmp_ge rfl (fun hno => absurd hno (nI_ge hk2 (by omega))) (fun _ => ?_)
      refine w_blk 2 (pc' := 15) (ls' := [some (.ref 53), some (.int (nI r)), some (.int (pI (frB R D S k r = true))), some (.int (nI k)), some (.int 0)]) (sk' := []) (st' := st) (fun _ h => h) ?_
      have key2 : ∀ (m j : Nat), j + m = k → mW (mMC mT (d + 0)) (0, fun _ => 0) (mAtL P_X10_isFalse) (some .boolean) Q 15 [some (.ref 53), some (.int (nI r)), some (.int (pI ((frB R D S k r || hasB (frI R D S r k) j) = true))), some (.int (nI k)), some (.int (nI j))] [] st := by
        intro m
        induction m with
        | zero =>
          intro j hj
          obtain rfl : k = j := by omega
          refine w_blk 2 (pc' := 18) (ls' := [some (.ref 53), some (.int (nI r)), some (.int (pI ((frB R D S k r || hasB (frI R D S r k) k) = true))), some (.int (nI k)), some (.int (nI k))]) (sk' := [.int (nI k), .int (nI k)]) (st' := st) (fun _ h => h) ?_
          refine w_cmp_ge rfl (fun _ => ?_) (fun hno => absurd (Int32.le_refl _) hno)
          refine w_blk 1 (pc' := 106) (ls' := [some (.ref 53), some (.int (nI r)), some (.int (pI ((frB R D S k r || hasB (frI R D S r k) k) = true))), some (.int ((nI k) + 1)), some (.int (nI k))]) (sk' := []) (st' := st) (fun _ h => h) ?_
          rw [show ((nI k) + 1) = nI (k + 1) from nI_add k 1]
          refine w_blk 1 (pc' := 4) (ls' := [some (.ref 53), some (.int (nI r)), some (.int (pI ((frB R D S k r || hasB (frI R D S r k) k) = true))), some (.int (nI (k + 1))), some (.int (nI k))]) (sk' := []) (st' := st) (fun _ h => h) ?_
          exact ih (k + 1) (by omega) _
        | succ m ih2 =>
          intro j hj
          have hj2 : j < k := by omega
          have hHj := hH.2 j (by omega)
          refine w_blk 2 (pc' := 18) (ls' := [some (.ref 53), some (.int (nI r)), some (.int (pI ((frB R D S k r || hasB (frI R D S r k) j) = true))), some (.int (nI k)), some (.int (nI j))]) (sk' := [.int (nI k), .int (nI j)]) (st' := st) (fun _ h => h) ?_
          refine w_cmp_ge rfl (fun hno => absurd hno (nI_ge hj2 (by omega))) (fun _ => ?_)
          refine w_blk 1 (pc' := 22) (ls' := [some (.ref 53), some (.int (nI r)), some (.int (pI ((frB R D S k r || hasB (frI R D S r k) j) = true))), some (.int (nI k)), some (.int (nI j))]) (sk' := [.int (pI ((frB R D S k r || hasB (frI R D S r k) j) = true))]) (st' := st) (fun _ h => h) ?_
          refine w_if_ne rfl (fun h1 => ?_) (fun h1 => ?_)
          · replace h1 := pI_ne.mp h1
            refine w_blk 4 (pc' := 100) (ls' := [some (.ref 53), some (.int (nI r)), some (.int 1), some (.int (nI k)), some (.int ((nI j) + 1))]) (sk' := []) (st' := st) (fun _ h => h) ?_
            rw [show ((nI j) + 1) = nI (j + 1) from nI_add j 1]
            refine w_blk 1 (pc' := 15) (ls' := [some (.ref 53), some (.int (nI r)), some (.int 1), some (.int (nI k)), some (.int (nI (j + 1)))]) (sk' := []) (st' := st) (fun _ h => h) ?_
            exact (by have hh := ih2 (j + 1) (by omega); rw [show pI ((frB R D S k r || hasB (frI R D S r k) (j + 1)) = true) = 1 from (pI_cong or_step).trans (pI_t (by first | exact Or.inl h1 | exact Or.inr (frI_iff.mpr ⟨by omega, by omega, by omega⟩)))] at hh; exact hh)
          · replace h1 := pI_eq0.mp (Decidable.not_not.mp h1)
            refine w_blk 3 (pc' := 30) (ls' := [some (.ref 53), some (.int (nI r)), some (.int (pI ((frB R D S k r || hasB (frI R D S r k) j) = true))), some (.int (nI k)), some (.int (nI j))]) (sk' := [.int (nI k), .ref 83]) (st' := st) (fun _ h => h) ?_
            refine w_iald rfl rfl (vp_in_nI (n := k) (N := 30) (by omega) (by decide)) ?_
            rw [nI_clamp (show k < 2 ^ 31 by omega)]
            rw [(hP.2 k (by omega)).1]
            refine w_blk 1 (pc' := 32) (ls' := [some (.ref 53), some (.int (nI r)), some (.int (pI ((frB R D S k r || hasB (frI R D S r k) j) = true))), some (.int (nI k)), some (.int (nI j))]) (sk' := [.int (nI r), .int (nI (R k))]) (st' := st) (fun _ h => h) ?_
            refine w_cmp_ne rfl (fun h2 => ?_) (fun h2 => ?_)
            · replace h2 : ¬ (R k = r) := fun hh => h2 ((nI_eq (a := (R k)) (b := r) (by omega) (by omega)).mpr hh)
              refine w_blk 3 (pc' := 100) (ls' := [some (.ref 53), some (.int (nI r)), some (.int 0), some (.int (nI k)), some (.int ((nI j) + 1))]) (sk' := []) (st' := st) (fun _ h => h) ?_
              rw [show ((nI j) + 1) = nI (j + 1) from nI_add j 1]
              refine w_blk 1 (pc' := 15) (ls' := [some (.ref 53), some (.int (nI r)), some (.int 0), some (.int (nI k)), some (.int (nI (j + 1)))]) (sk' := []) (st' := st) (fun _ h => h) ?_
              exact (by have hh := ih2 (j + 1) (by omega); rw [show pI ((frB R D S k r || hasB (frI R D S r k) (j + 1)) = true) = 0 from (pI_cong or_step).trans (pI_f (fun h8 => h8.elim h1 (fun h7 => by have h9 := frI_iff.mp h7; omega)))] at hh; exact hh)
            · replace h2 : R k = r := (nI_eq (a := (R k)) (b := r) (by omega) (by omega)).mp (Decidable.not_not.mp h2)
              refine w_blk 3 (pc' := 41) (ls' := [some (.ref 53), some (.int (nI r)), some (.int (pI ((frB R D S k r || hasB (frI R D S r k) j) = true))), some (.int (nI k)), some (.int (nI j))]) (sk' := [.int (nI j), .ref 83]) (st' := st) (fun _ h => h) ?_
              refine w_iald rfl rfl (vp_in_nI (n := j) (N := 30) (by omega) (by decide)) ?_
              rw [nI_clamp (show j < 2 ^ 31 by omega)]
              rw [(hP.2 j (by omega)).1]
              refine w_blk 1 (pc' := 43) (ls' := [some (.ref 53), some (.int (nI r)), some (.int (pI ((frB R D S k r || hasB (frI R D S r k) j) = true))), some (.int (nI k)), some (.int (nI j))]) (sk' := [.int (nI r), .int (nI (R j))]) (st' := st) (fun _ h => h) ?_
              refine w_cmp_ne rfl (fun h3 => ?_) (fun h3 => ?_)
              · replace h3 : ¬ (R j = r) := fun hh => h3 ((nI_eq (a := (R j)) (b := r) (by omega) (by omega)).mpr hh)
                refine w_blk 3 (pc' := 100) (ls' := [some (.ref 53), some (.int (nI r)), some (.int 0), some (.int (nI k)), some (.int ((nI j) + 1))]) (sk' := []) (st' := st) (fun _ h => h) ?_
                rw [show ((nI j) + 1) = nI (j + 1) from nI_add j 1]
                refine w_blk 1 (pc' := 15) (ls' := [some (.ref 53), some (.int (nI r)), some (.int 0), some (.int (nI k)), some (.int (nI (j + 1)))]) (sk' := []) (st' := st) (fun _ h => h) ?_
                exact (by have hh := ih2 (j + 1) (by omega); rw [show pI ((frB R D S k r || hasB (frI R D S r k) (j + 1)) = true) = 0 from (pI_cong or_step).trans (pI_f (fun h8 => h8.elim h1 (fun h7 => by have h9 := frI_iff.mp h7; omega)))] at hh; exact hh)
              · replace h3 : R j = r := (nI_eq (a := (R j)) (b := r) (by omega) (by omega)).mp (Decidable.not_not.mp h3)
                refine w_blk 3 (pc' := 51) (ls' := [some (.ref 53), some (.int (nI r)), some (.int (pI ((frB R D S k r || hasB (frI R D S r k) j) = true))), some (.int (nI k)), some (.int (nI j))]) (sk' := [.int (nI k), .ref 84]) (st' := st) (fun _ h => h) ?_
                refine w_iald rfl rfl (vp_in_nI (n := k) (N := 30) (by omega) (by decide)) ?_
                rw [nI_clamp (show k < 2 ^ 31 by omega)]
                rw [(hP.2 k (by omega)).2.1]
                refine w_blk 3 (pc' := 58) (ls' := [some (.ref 53), some (.int (nI r)), some (.int (pI ((frB R D S k r || hasB (frI R D S r k) j) = true))), some (.int (nI k)), some (.int (nI j))]) (sk' := [.int (nI j), .ref 84, .int (nI (D k))]) (st' := st) (fun _ h => h) ?_
                refine w_iald rfl rfl (vp_in_nI (n := j) (N := 30) (by omega) (by decide)) ?_
                rw [nI_clamp (show j < 2 ^ 31 by omega)]
                rw [(hP.2 j (by omega)).2.1]
                refine w_cmp_ne rfl (fun h4 => ?_) (fun h4 => ?_)
                · replace h4 : ¬ (D k = D j) := fun hh => h4 ((nI_eq (a := (D k)) (b := (D j)) (by omega) (by omega)).mpr hh)
                  refine w_blk 4 (pc' := 72) (ls' := [some (.ref 53), some (.int (nI r)), some (.int (pI ((frB R D S k r || hasB (frI R D S r k) j) = true))), some (.int (nI k)), some (.int (nI j))]) (sk' := [.int (nI k), .ref 85, .int 0]) (st' := st) (fun _ h => h) ?_
                  refine w_iald rfl rfl (vp_in_nI (n := k) (N := 30) (by omega) (by decide)) ?_
                  rw [nI_clamp (show k < 2 ^ 31 by omega)]
                  rw [(hP.2 k (by omega)).2.2]
                  refine w_blk 3 (pc' := 79) (ls' := [some (.ref 53), some (.int (nI r)), some (.int (pI ((frB R D S k r || hasB (frI R D S r k) j) = true))), some (.int (nI k)), some (.int (nI j))]) (sk' := [.int (nI j), .ref 85, .int (nI (S k)), .int 0]) (st' := st) (fun _ h => h) ?_
                  refine w_iald rfl rfl (vp_in_nI (n := j) (N := 30) (by omega) (by decide)) ?_
                  rw [nI_clamp (show j < 2 ^ 31 by omega)]
                  rw [(hP.2 j (by omega)).2.2]
                  refine w_cmp_ne rfl (fun h5 => ?_) (fun h5 => ?_)
                  · replace h5 : ¬ (S k = S j) := fun hh => h5 ((nI_eq (a := (S k)) (b := (S j)) (by omega) (by omega)).mpr hh)
                    refine w_blk 1 (pc' := 88) (ls' := [some (.ref 53), some (.int (nI r)), some (.int (pI ((frB R D S k r || hasB (frI R D S r k) j) = true))), some (.int (nI k)), some (.int (nI j))]) (sk' := [.int 0, .int 0]) (st' := st) (fun _ h => h) ?_
                    refine w_cmp_eq rfl (fun _ => ?_) (fun hno => absurd (by decide) hno)
                    refine w_blk 3 (pc' := 100) (ls' := [some (.ref 53), some (.int (nI r)), some (.int 0), some (.int (nI k)), some (.int ((nI j) + 1))]) (sk' := []) (st' := st) (fun _ h => h) ?_
                    rw [show ((nI j) + 1) = nI (j + 1) from nI_add j 1]
                    refine w_blk 1 (pc' := 15) (ls' := [some (.ref 53), some (.int (nI r)), some (.int 0), some (.int (nI k)), some (.int (nI (j + 1)))]) (sk' := []) (st' := st) (fun _ h => h) ?_
                    exact (by have hh := ih2 (j + 1) (by omega); rw [show pI ((frB R D S k r || hasB (frI R D S r k) (j + 1)) = true) = 0 from (pI_cong or_step).trans (pI_f (fun h8 => h8.elim h1 (fun h7 => by have h9 := frI_iff.mp h7; omega)))] at hh; exact hh)
                  · replace h5 : S k = S j := (nI_eq (a := (S k)) (b := (S j)) (by omega) (by omega)).mp (Decidable.not_not.mp h5)
                    refine w_blk 2 (pc' := 88) (ls' := [some (.ref 53), some (.int (nI r)), some (.int (pI ((frB R D S k r || hasB (frI R D S r k) j) = true))), some (.int (nI k)), some (.int (nI j))]) (sk' := [.int 1, .int 0]) (st' := st) (fun _ h => h) ?_
                    refine w_cmp_eq rfl (fun hno => absurd hno (by decide)) (fun _ => ?_)
                    refine w_blk 4 (pc' := 100) (ls' := [some (.ref 53), some (.int (nI r)), some (.int 1), some (.int (nI k)), some (.int ((nI j) + 1))]) (sk' := []) (st' := st) (fun _ h => h) ?_
                    rw [show ((nI j) + 1) = nI (j + 1) from nI_add j 1]
                    refine w_blk 1 (pc' := 15) (ls' := [some (.ref 53), some (.int (nI r)), some (.int 1), some (.int (nI k)), some (.int (nI (j + 1)))]) (sk' := []) (st' := st) (fun _ h => h) ?_
                    exact (by have hh := ih2 (j + 1) (by omega); rw [show pI ((frB R D S k r || hasB (frI R D S r k) (j + 1)) = true) = 1 from (pI_cong or_step).trans (pI_t (by first | exact Or.inl h1 | exact Or.inr (frI_iff.mpr ⟨by omega, by omega, by omega⟩)))] at hh; exact hh)
                · replace h4 : D k = D j := (nI_eq (a := (D k)) (b := (D j)) (by omega) (by omega)).mp (Decidable.not_not.mp h4)
                  refine w_blk 5 (pc' := 72) (ls' := [some (.ref 53), some (.int (nI r)), some (.int (pI ((frB R D S k r || hasB (frI R D S r k) j) = true))), some (.int (nI k)), some (.int (nI j))]) (sk' := [.int (nI k), .ref 85, .int 1]) (st' := st) (fun _ h => h) ?_
                  refine w_iald rfl rfl (vp_in_nI (n := k) (N := 30) (by omega) (by decide)) ?_
                  rw [nI_clamp (show k < 2 ^ 31 by omega)]
                  rw [(hP.2 k (by omega)).2.2]
                  refine w_blk 3 (pc' := 79) (ls' := [some (.ref 53), some (.int (nI r)), some (.int (pI ((frB R D S k r || hasB (frI R D S r k) j) = true))), some (.int (nI k)), some (.int (nI j))]) (sk' := [.int (nI j), .ref 85, .int (nI (S k)), .int 1]) (st' := st) (fun _ h => h) ?_
                  refine w_iald rfl rfl (vp_in_nI (n := j) (N := 30) (by omega) (by decide)) ?_
                  rw [nI_clamp (show j < 2 ^ 31 by omega)]
                  rw [(hP.2 j (by omega)).2.2]
                  refine w_cmp_ne rfl (fun h5 => ?_) (fun h5 => ?_)
                  · replace h5 : ¬ (S k = S j) := fun hh => h5 ((nI_eq (a := (S k)) (b := (S j)) (by omega) (by omega)).mpr hh)
                    refine w_blk 1 (pc' := 88) (ls' := [some (.ref 53), some (.int (nI r)), some (.int (pI ((frB R D S k r || hasB (frI R D S r k) j) = true))), some (.int (nI k)), some (.int (nI j))]) (sk' := [.int 0, .int 1]) (st' := st) (fun _ h => h) ?_
                    refine w_cmp_eq rfl (fun hno => absurd hno (by decide)) (fun _ => ?_)
                    refine w_blk 4 (pc' := 100) (ls' := [some (.ref 53), some (.int (nI r)), some (.int 1), some (.int (nI k)), some (.int ((nI j) + 1))]) (sk' := []) (st' := st) (fun _ h => h) ?_
                    rw [show ((nI j) + 1) = nI (j + 1) from nI_add j 1]
                    refine w_blk 1 (pc' := 15) (ls' := [some (.ref 53), some (.int (nI r)), some (.int 1), some (.int (nI k)), some (.int (nI (j + 1)))]) (sk' := []) (st' := st) (fun _ h => h) ?_
                    exact (by have hh := ih2 (j + 1) (by omega); rw [show pI ((frB R D S k r || hasB (frI R D S r k) (j + 1)) = true) = 1 from (pI_cong or_step).trans (pI_t (by first | exact Or.inl h1 | exact Or.inr (frI_iff.mpr ⟨by omega, by omega, by omega⟩)))] at hh; exact hh)
                  · replace h5 : S k = S j := (nI_eq (a := (S k)) (b := (S j)) (by omega) (by omega)).mp (Decidable.not_not.mp h5)
                    refine w_blk 2 (pc' := 88) (ls' := [some (.ref 53), some (.int (nI r)), some (.int (pI ((frB R D S k r || hasB (frI R D S r k) j) = true))), some (.int (nI k)), some (.int (nI j))]) (sk' := [.int 1, .int 1]) (st' := st) (fun _ h => h) ?_
                    refine w_cmp_eq rfl (fun _ => ?_) (fun hno => absurd (by decide) hno)
                    refine w_blk 3 (pc' := 100) (ls' := [some (.ref 53), some (.int (nI r)), some (.int 0), some (.int (nI k)), some (.int ((nI j) + 1))]) (sk' := []) (st' := st) (fun _ h => h) ?_
                    rw [show ((nI j) + 1) = nI (j + 1) from nI_add j 1]
                    refine w_blk 1 (pc' := 15) (ls' := [some (.ref 53), some (.int (nI r)), some (.int 0), some (.int (nI k)), some (.int (nI (j + 1)))]) (sk' := []) (st' := st) (fun _ h => h) ?_
                    exact (by have hh := ih2 (j + 1) (by omega); rw [show pI ((frB R D S k r || hasB (frI R D S r k) (j + 1)) = true) = 0 from (pI_cong or_step).trans (pI_f (fun h8 => h8.elim h1 (fun h7 => by have h9 := frI_iff.mp h7; omega)))] at hh; exact hh)
      exact (by have hh := key2 k 0 (by omega); rw [show pI ((frB R D S k r || hasB (frI R D S r k) 0) = true) = pI (frB R D S k r = true) from pI_cong (by rw [show hasB (frI R D S r k) 0 = false from rfl, Bool.or_false])] at hh; exact hh)
  exact key (a - 0) 0 (by omega) none
theorem cheat1 {w : Int32} (h : 0 ≤ w ∧ w ≤ 1) (h0 : ¬ w = 0) : w = 1 := by
  obtain ⟨q, -, hq1, rfl⟩ := nI_within (a := 0) (b := 1) h (by decide) (by decide)
  have f0 : q ≠ 0 := fun e => h0 (by rw [e]; rfl)
  rw [show q = 1 by omega]
  rfl
set_option maxRecDepth 20000 in
/-- cheats -/
theorem m_cheats (d : Nat) (a : Nat) (R D S : Nat → Nat) (w : Int32) (st : mSt) (hP : MT st a R D S) (hH : TB a R D S) : mMC mT (d + 2) 183 [.ref 53, .int w] st (some (.int (sp_cheats a R D S w))) st := by
  refine mI_X10_cheats (d := d + 1) (Nat.le_of_ble_eq_true rfl) (fun Q hq => ?_)
  show mW (mMC mT (d + 1)) (0, fun _ => 0) (mAtL P_X10_cheats) (some .int) Q 0 [some (.ref 53), some (.int w), none, none, none, none] [] st
  have ha := hH.1
  refine w_blk 3 (pc' := 3) (ls' := [some (.ref 53), some (.int w), none, none, none, none]) (sk' := [.int 1, .int 0, .int w]) (st' := st) (fun _ h => h) ?_
  refine w_callS (As := [.int w, .int 0, .int 1]) (rest := []) rfl rfl rfl (Nat.le_of_ble_eq_true rfl) (Nat.le_of_ble_eq_true rfl) (m_in (d + 0) w 0 1 st) ?_
  refine w_if_ne rfl (fun h1 => ?_) (fun h1 => ?_)
  · replace h1 := pI_ne.mp h1
    refine w_blk 6 (pc' := 18) (ls' := [some (.ref 53), some (.int w), some (.int 0), some (.int 0), some (.int 0), none]) (sk' := []) (st' := st) (fun _ h => h) ?_
    have rnds : ∀ (l5 : Option Value) (m k : Nat), k + m = 100 → mW (mMC mT (d + 1)) (0, fun _ => 0) (mAtL P_X10_cheats) (some .int) Q 102 [some (.ref 53), some (.int w), some (.int (nI (orB (twB D S) D a))), some (.int (nI (fc R D S a k))), some (.int (nI k)), l5] [] st := by
      intro l5 m
      induction m with
      | zero =>
        intro k hk
        obtain rfl : k = 100 := by omega
        refine w_blk 2 (pc' := 106) (ls' := [some (.ref 53), some (.int w), some (.int (nI (orB (twB D S) D a))), some (.int (nI (fc R D S a 100))), some (.int (nI 100)), l5]) (sk' := [.int 100, .int (nI 100)]) (st' := st) (fun _ h => h) ?_
        refine w_cmp_ge rfl (fun _ => ?_) (fun hno => absurd (by decide) hno)
        refine w_blk 1 (pc' := 133) (ls' := [some (.ref 53), some (.int w), some (.int (nI (orB (twB D S) D a))), some (.int (nI (fc R D S a 100))), some (.int (nI 100)), l5]) (sk' := [.int w]) (st' := st) (fun _ h => h) ?_
        refine w_if_ne rfl (fun h2 => ?_) (fun h2 => ?_)
        · refine w_blk 1 (pc' := 141) (ls' := [some (.ref 53), some (.int w), some (.int (nI (orB (twB D S) D a))), some (.int (nI (fc R D S a 100))), some (.int (nI 100)), l5]) (sk' := [.int (nI (fc R D S a 100))]) (st' := st) (fun _ h => h) ?_
          rw [show sp_cheats a R D S w = (nI (fc R D S a 100)) from (if_neg h2).trans (if_pos (cheat1 h1 h2))] at hq
          exact w_iret rfl rfl rfl hq
        · refine w_blk 2 (pc' := 141) (ls' := [some (.ref 53), some (.int w), some (.int (nI (orB (twB D S) D a))), some (.int (nI (fc R D S a 100))), some (.int (nI 100)), l5]) (sk' := [.int (nI (orB (twB D S) D a))]) (st' := st) (fun _ h => h) ?_
          rw [show sp_cheats a R D S w = (nI (orB (twB D S) D a)) from if_pos (Decidable.not_not.mp h2)] at hq
          exact w_iret rfl rfl rfl hq
      | succ m ih =>
        intro k hk
        have hk2 : k < 100 := by omega
        have hfk := fc_le R D S a k
        refine w_blk 2 (pc' := 106) (ls' := [some (.ref 53), some (.int w), some (.int (nI (orB (twB D S) D a))), some (.int (nI (fc R D S a k))), some (.int (nI k)), l5]) (sk' := [.int 100, .int (nI k)]) (st' := st) (fun _ h => h) ?_
        refine w_cmp_ge rfl (fun hno => absurd hno (nI_ge (a := k) (b := 100) hk2 (by omega))) (fun _ => ?_)
        refine w_blk 3 (pc' := 113) (ls' := [some (.ref 53), some (.int w), some (.int (nI (orB (twB D S) D a))), some (.int (nI (fc R D S a k))), some (.int (nI k)), l5]) (sk' := [.int (nI k), .ref 53, .int (nI (fc R D S a k))]) (st' := st) (fun _ h => h) ?_
        refine w_callV (As := [.ref 53, .int (nI k)]) (rest := [.int (nI (fc R D S a k))]) rfl rfl rfl (Nat.le_of_ble_eq_true rfl) (Nat.le_of_ble_eq_true rfl) (by first | exact Or.inl ⟨rfl, rfl⟩ | exact Or.inr ⟨rfl, rfl⟩) (m_isFalse (d + 0) a R D S k st hP hH (by omega)) ?_
        refine w_if_eq rfl (fun h2 => ?_) (fun h2 => ?_)
        · replace h2 := pI_eq0.mp h2
          refine w_blk 2 (pc' := 125) (ls' := [some (.ref 53), some (.int w), some (.int (nI (orB (twB D S) D a))), some (.int (nI (fc R D S a k))), some (.int (nI k)), l5]) (sk' := [.int ((nI (fc R D S a k)) + 0)]) (st' := st) (fun _ h => h) ?_
          rw [show ((nI (fc R D S a k)) + 0) = nI ((fc R D S a k) + 0) from nI_add (fc R D S a k) 0]
          refine w_blk 2 (pc' := 129) (ls' := [some (.ref 53), some (.int w), some (.int (nI (orB (twB D S) D a))), some (.int (nI ((fc R D S a k) + 0))), some (.int ((nI k) + 1)), l5]) (sk' := []) (st' := st) (fun _ h => h) ?_
          rw [show ((nI k) + 1) = nI (k + 1) from nI_add k 1]
          refine w_blk 1 (pc' := 102) (ls' := [some (.ref 53), some (.int w), some (.int (nI (orB (twB D S) D a))), some (.int (nI ((fc R D S a k) + 0))), some (.int (nI (k + 1))), l5]) (sk' := []) (st' := st) (fun _ h => h) ?_
          exact (by have hh := ih (k + 1) (by omega); rw [show fc R D S a (k + 1) = (fc R D S a k) + 0 from congrArg (fc R D S a k + ·) (if_neg h2)] at hh; exact hh)
        · replace h2 := pI_ne.mp h2
          refine w_blk 3 (pc' := 125) (ls' := [some (.ref 53), some (.int w), some (.int (nI (orB (twB D S) D a))), some (.int (nI (fc R D S a k))), some (.int (nI k)), l5]) (sk' := [.int ((nI (fc R D S a k)) + 1)]) (st' := st) (fun _ h => h) ?_
          rw [show ((nI (fc R D S a k)) + 1) = nI ((fc R D S a k) + 1) from nI_add (fc R D S a k) 1]
          refine w_blk 2 (pc' := 129) (ls' := [some (.ref 53), some (.int w), some (.int (nI (orB (twB D S) D a))), some (.int (nI ((fc R D S a k) + 1))), some (.int ((nI k) + 1)), l5]) (sk' := []) (st' := st) (fun _ h => h) ?_
          rw [show ((nI k) + 1) = nI (k + 1) from nI_add k 1]
          refine w_blk 1 (pc' := 102) (ls' := [some (.ref 53), some (.int w), some (.int (nI (orB (twB D S) D a))), some (.int (nI ((fc R D S a k) + 1))), some (.int (nI (k + 1))), l5]) (sk' := []) (st' := st) (fun _ h => h) ?_
          exact (by have hh := ih (k + 1) (by omega); rw [show fc R D S a (k + 1) = (fc R D S a k) + 1 from congrArg (fc R D S a k + ·) (if_pos h2)] at hh; exact hh)
    have key : ∀ (m k : Nat), k + m = a → ∀ (l5 : Option Value), mW (mMC mT (d + 1)) (0, fun _ => 0) (mAtL P_X10_cheats) (some .int) Q 18 [some (.ref 53), some (.int w), some (.int (nI (orB (twB D S) D k))), some (.int 0), some (.int (nI k)), l5] [] st := by
      intro m
      induction m with
      | zero =>
        intro k hk l5
        obtain rfl : a = k := by omega
        refine w_blk 3 (pc' := 24) (ls' := [some (.ref 53), some (.int w), some (.int (nI (orB (twB D S) D a))), some (.int 0), some (.int (nI a)), l5]) (sk' := [.int (st.1 53 38), .int (nI a)]) (st' := st) (fun _ h => h) ?_
        rw [hP.1]
        refine w_cmp_ge rfl (fun _ => ?_) (fun hno => absurd (Int32.le_refl _) hno)
        refine w_blk 2 (pc' := 102) (ls' := [some (.ref 53), some (.int w), some (.int (nI (orB (twB D S) D a))), some (.int 0), some (.int 0), l5]) (sk' := []) (st' := st) (fun _ h => h) ?_
        exact rnds l5 100 0 (by omega)
      | succ m ih =>
        intro k hk l5
        have hk2 : k < a := by omega
        have hHk := hH.2 k hk2
        refine w_blk 3 (pc' := 24) (ls' := [some (.ref 53), some (.int w), some (.int (nI (orB (twB D S) D k))), some (.int 0), some (.int (nI k)), l5]) (sk' := [.int (st.1 53 38), .int (nI k)]) (st' := st) (fun _ h => h) ?_
        rw [hP.1]
        refine w_cmp_ge rfl (fun hno => absurd hno (nI_ge hk2 (by omega))) (fun _ => ?_)
        refine w_blk 2 (pc' := 30) (ls' := [some (.ref 53), some (.int w), some (.int (nI (orB (twB D S) D k))), some (.int 0), some (.int (nI k)), some (.int 0)]) (sk' := []) (st' := st) (fun _ h => h) ?_
        have key2 : ∀ (m j : Nat), j + m = k → mW (mMC mT (d + 1)) (0, fun _ => 0) (mAtL P_X10_cheats) (some .int) Q 30 [some (.ref 53), some (.int w), some (.int (nI (twI D S k (orB (twB D S) D k) j))), some (.int 0), some (.int (nI k)), some (.int (nI j))] [] st := by
          intro m
          induction m with
          | zero =>
            intro j hj
            obtain rfl : k = j := by omega
            refine w_blk 2 (pc' := 34) (ls' := [some (.ref 53), some (.int w), some (.int (nI (twI D S k (orB (twB D S) D k) k))), some (.int 0), some (.int (nI k)), some (.int (nI k))]) (sk' := [.int (nI k), .int (nI k)]) (st' := st) (fun _ h => h) ?_
            refine w_cmp_ge rfl (fun _ => ?_) (fun hno => absurd (Int32.le_refl _) hno)
            refine w_blk 1 (pc' := 96) (ls' := [some (.ref 53), some (.int w), some (.int (nI (twI D S k (orB (twB D S) D k) k))), some (.int 0), some (.int ((nI k) + 1)), some (.int (nI k))]) (sk' := []) (st' := st) (fun _ h => h) ?_
            rw [show ((nI k) + 1) = nI (k + 1) from nI_add k 1]
            refine w_blk 1 (pc' := 18) (ls' := [some (.ref 53), some (.int w), some (.int (nI (twI D S k (orB (twB D S) D k) k))), some (.int 0), some (.int (nI (k + 1))), some (.int (nI k))]) (sk' := []) (st' := st) (fun _ h => h) ?_
            exact ih (k + 1) (by omega) _
          | succ m ih2 =>
            intro j hj
            have hj2 : j < k := by omega
            have hHj := hH.2 j (by omega)
            refine w_blk 2 (pc' := 34) (ls' := [some (.ref 53), some (.int w), some (.int (nI (twI D S k (orB (twB D S) D k) j))), some (.int 0), some (.int (nI k)), some (.int (nI j))]) (sk' := [.int (nI k), .int (nI j)]) (st' := st) (fun _ h => h) ?_
            refine w_cmp_ge rfl (fun hno => absurd hno (nI_ge hj2 (by omega))) (fun _ => ?_)
            refine w_blk 4 (pc' := 44) (ls' := [some (.ref 53), some (.int w), some (.int (nI (twI D S k (orB (twB D S) D k) j))), some (.int 0), some (.int (nI k)), some (.int (nI j))]) (sk' := [.int (nI k), .ref 84, .int (nI (twI D S k (orB (twB D S) D k) j))]) (st' := st) (fun _ h => h) ?_
            refine w_iald rfl rfl (vp_in_nI (n := k) (N := 30) (by omega) (by decide)) ?_
            rw [nI_clamp (show k < 2 ^ 31 by omega)]
            rw [(hP.2 k (by omega)).2.1]
            refine w_blk 3 (pc' := 51) (ls' := [some (.ref 53), some (.int w), some (.int (nI (twI D S k (orB (twB D S) D k) j))), some (.int 0), some (.int (nI k)), some (.int (nI j))]) (sk' := [.int (nI j), .ref 84, .int (nI (D k)), .int (nI (twI D S k (orB (twB D S) D k) j))]) (st' := st) (fun _ h => h) ?_
            refine w_iald rfl rfl (vp_in_nI (n := j) (N := 30) (by omega) (by decide)) ?_
            rw [nI_clamp (show j < 2 ^ 31 by omega)]
            rw [(hP.2 j (by omega)).2.1]
            refine w_cmp_ne rfl (fun h1 => ?_) (fun h1 => ?_)
            · replace h1 : ¬ (D k = D j) := fun hh => h1 ((nI_eq (a := (D k)) (b := (D j)) (by omega) (by omega)).mpr hh)
              refine w_blk 2 (pc' := 86) (ls' := [some (.ref 53), some (.int w), some (.int (nI (twI D S k (orB (twB D S) D k) j))), some (.int 0), some (.int (nI k)), some (.int (nI j))]) (sk' := [.int ((nI (twI D S k (orB (twB D S) D k) j)) ||| 0)]) (st' := st) (fun _ h => h) ?_
              rw [show ((nI (twI D S k (orB (twB D S) D k) j)) ||| 0) = nI ((twI D S k (orB (twB D S) D k) j) ||| 0) from nI_or (twI D S k (orB (twB D S) D k) j) 0]
              refine w_blk 2 (pc' := 90) (ls' := [some (.ref 53), some (.int w), some (.int (nI ((twI D S k (orB (twB D S) D k) j) ||| 0))), some (.int 0), some (.int (nI k)), some (.int ((nI j) + 1))]) (sk' := []) (st' := st) (fun _ h => h) ?_
              rw [show ((nI j) + 1) = nI (j + 1) from nI_add j 1]
              refine w_blk 1 (pc' := 30) (ls' := [some (.ref 53), some (.int w), some (.int (nI ((twI D S k (orB (twB D S) D k) j) ||| 0))), some (.int 0), some (.int (nI k)), some (.int (nI (j + 1)))]) (sk' := []) (st' := st) (fun _ h => h) ?_
              exact (by have hh := ih2 (j + 1) (by omega); rw [show twI D S k (orB (twB D S) D k) (j + 1) = (twI D S k (orB (twB D S) D k) j) ||| 0 from by first | exact twI_yes ⟨by omega, by omega⟩ | exact twI_no (by omega)] at hh; exact hh)
            · replace h1 : D k = D j := (nI_eq (a := (D k)) (b := (D j)) (by omega) (by omega)).mp (Decidable.not_not.mp h1)
              refine w_blk 3 (pc' := 61) (ls' := [some (.ref 53), some (.int w), some (.int (nI (twI D S k (orB (twB D S) D k) j))), some (.int 0), some (.int (nI k)), some (.int (nI j))]) (sk' := [.int (nI k), .ref 85, .int (nI (twI D S k (orB (twB D S) D k) j))]) (st' := st) (fun _ h => h) ?_
              refine w_iald rfl rfl (vp_in_nI (n := k) (N := 30) (by omega) (by decide)) ?_
              rw [nI_clamp (show k < 2 ^ 31 by omega)]
              rw [(hP.2 k (by omega)).2.2]
              refine w_blk 3 (pc' := 68) (ls' := [some (.ref 53), some (.int w), some (.int (nI (twI D S k (orB (twB D S) D k) j))), some (.int 0), some (.int (nI k)), some (.int (nI j))]) (sk' := [.int (nI j), .ref 85, .int (nI (S k)), .int (nI (twI D S k (orB (twB D S) D k) j))]) (st' := st) (fun _ h => h) ?_
              refine w_iald rfl rfl (vp_in_nI (n := j) (N := 30) (by omega) (by decide)) ?_
              rw [nI_clamp (show j < 2 ^ 31 by omega)]
              rw [(hP.2 j (by omega)).2.2]
              refine w_cmp_ne rfl (fun h2 => ?_) (fun h2 => ?_)
              · replace h2 : ¬ (S k = S j) := fun hh => h2 ((nI_eq (a := (S k)) (b := (S j)) (by omega) (by omega)).mpr hh)
                refine w_blk 2 (pc' := 86) (ls' := [some (.ref 53), some (.int w), some (.int (nI (twI D S k (orB (twB D S) D k) j))), some (.int 0), some (.int (nI k)), some (.int (nI j))]) (sk' := [.int ((nI (twI D S k (orB (twB D S) D k) j)) ||| 0)]) (st' := st) (fun _ h => h) ?_
                rw [show ((nI (twI D S k (orB (twB D S) D k) j)) ||| 0) = nI ((twI D S k (orB (twB D S) D k) j) ||| 0) from nI_or (twI D S k (orB (twB D S) D k) j) 0]
                refine w_blk 2 (pc' := 90) (ls' := [some (.ref 53), some (.int w), some (.int (nI ((twI D S k (orB (twB D S) D k) j) ||| 0))), some (.int 0), some (.int (nI k)), some (.int ((nI j) + 1))]) (sk' := []) (st' := st) (fun _ h => h) ?_
                rw [show ((nI j) + 1) = nI (j + 1) from nI_add j 1]
                refine w_blk 1 (pc' := 30) (ls' := [some (.ref 53), some (.int w), some (.int (nI ((twI D S k (orB (twB D S) D k) j) ||| 0))), some (.int 0), some (.int (nI k)), some (.int (nI (j + 1)))]) (sk' := []) (st' := st) (fun _ h => h) ?_
                exact (by have hh := ih2 (j + 1) (by omega); rw [show twI D S k (orB (twB D S) D k) (j + 1) = (twI D S k (orB (twB D S) D k) j) ||| 0 from by first | exact twI_yes ⟨by omega, by omega⟩ | exact twI_no (by omega)] at hh; exact hh)
              · replace h2 : S k = S j := (nI_eq (a := (S k)) (b := (S j)) (by omega) (by omega)).mp (Decidable.not_not.mp h2)
                refine w_blk 4 (pc' := 79) (ls' := [some (.ref 53), some (.int w), some (.int (nI (twI D S k (orB (twB D S) D k) j))), some (.int 0), some (.int (nI k)), some (.int (nI j))]) (sk' := [.int (nI k), .ref 84, .int 1, .int (nI (twI D S k (orB (twB D S) D k) j))]) (st' := st) (fun _ h => h) ?_
                refine w_iald rfl rfl (vp_in_nI (n := k) (N := 30) (by omega) (by decide)) ?_
                rw [nI_clamp (show k < 2 ^ 31 by omega)]
                rw [(hP.2 k (by omega)).2.1]
                refine w_blk 1 (pc' := 81) (ls' := [some (.ref 53), some (.int w), some (.int (nI (twI D S k (orB (twB D S) D k) j))), some (.int 0), some (.int (nI k)), some (.int (nI j))]) (sk' := [.int (1 <<< ((nI (D k)) &&& 31)), .int (nI (twI D S k (orB (twB D S) D k) j))]) (st' := st) (fun _ h => h) ?_
                rw [show (1 <<< ((nI (D k)) &&& 31)) = nI (2 ^ (D k)) from nI_shl1 (by omega)]
                refine w_blk 2 (pc' := 86) (ls' := [some (.ref 53), some (.int w), some (.int (nI (twI D S k (orB (twB D S) D k) j))), some (.int 0), some (.int (nI k)), some (.int (nI j))]) (sk' := [.int ((nI (twI D S k (orB (twB D S) D k) j)) ||| (nI (2 ^ (D k))))]) (st' := st) (fun _ h => h) ?_
                rw [show ((nI (twI D S k (orB (twB D S) D k) j)) ||| (nI (2 ^ (D k)))) = nI ((twI D S k (orB (twB D S) D k) j) ||| (2 ^ (D k))) from nI_or (twI D S k (orB (twB D S) D k) j) (2 ^ (D k))]
                refine w_blk 2 (pc' := 90) (ls' := [some (.ref 53), some (.int w), some (.int (nI ((twI D S k (orB (twB D S) D k) j) ||| (2 ^ (D k))))), some (.int 0), some (.int (nI k)), some (.int ((nI j) + 1))]) (sk' := []) (st' := st) (fun _ h => h) ?_
                rw [show ((nI j) + 1) = nI (j + 1) from nI_add j 1]
                refine w_blk 1 (pc' := 30) (ls' := [some (.ref 53), some (.int w), some (.int (nI ((twI D S k (orB (twB D S) D k) j) ||| (2 ^ (D k))))), some (.int 0), some (.int (nI k)), some (.int (nI (j + 1)))]) (sk' := []) (st' := st) (fun _ h => h) ?_
                exact (by have hh := ih2 (j + 1) (by omega); rw [show twI D S k (orB (twB D S) D k) (j + 1) = (twI D S k (orB (twB D S) D k) j) ||| (2 ^ (D k)) from by first | exact twI_yes ⟨by omega, by omega⟩ | exact twI_no (by omega)] at hh; exact hh)
        exact key2 k 0 (by omega)
    exact key (a - 0) 0 (by omega) none
  · replace h1 := pI_eq0.mp (Decidable.not_not.mp h1)
    refine w_blk 1 (pc' := 10) (ls' := [some (.ref 53), some (.int w), none, none, none, none]) (sk' := [.int (-1)]) (st' := st) (fun _ h => h) ?_
    have e0 : ¬ w = 0 := fun e => h1 (by rw [e]; decide)
    have e1 : ¬ w = 1 := fun e => h1 (by rw [e]; decide)
    rw [show sp_cheats a R D S w = (-1) from (if_neg e0).trans (if_neg e1)] at hq
    exact w_iret rfl rfl rfl hq
