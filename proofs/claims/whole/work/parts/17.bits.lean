/-! BITS: what the machine's words do to numbers below 2^31 -/
theorem nI_toNat (n : Nat) : (nI n).toBitVec.toNat = n % 2 ^ 32 := by
  show (Int32.ofNat n).toBitVec.toNat = _
  rfl
theorem i32_ext {x y : Int32} (h : x.toBitVec.toNat = y.toBitVec.toNat) : x = y := by
  have h1 : x.toBitVec = y.toBitVec := BitVec.eq_of_toNat_eq h
  exact Int32.toBitVec_inj.mp h1
theorem nI_or (a b : Nat) : nI a ||| nI b = nI (a ||| b) := by
  apply i32_ext
  rw [Int32.toBitVec_or, BitVec.toNat_or, nI_toNat, nI_toNat, nI_toNat, Nat.or_mod_two_pow]
theorem nI_and (a b : Nat) : nI a &&& nI b = nI (a &&& b) := by
  apply i32_ext
  rw [Int32.toBitVec_and, BitVec.toNat_and, nI_toNat, nI_toNat, nI_toNat, Nat.and_mod_two_pow]
theorem nI_xor (a b : Nat) : nI a ^^^ nI b = nI (a ^^^ b) := by
  apply i32_ext
  rw [Int32.toBitVec_xor, BitVec.toNat_xor, nI_toNat, nI_toNat, nI_toNat, Nat.xor_mod_two_pow]
theorem nI_m1 : (-1 : Int32) = nI 4294967295 := by decide +kernel
theorem nI_one : (1 : Int32) = nI 1 := rfl
theorem nI_k31 : ∀ k, k < 32 → nI k &&& 31 = nI k := by decide +kernel
theorem nI_smod : ∀ k, k < 32 → ((nI k).toBitVec.smod 32).toNat = k := by decide +kernel
theorem nI_ush : ∀ k, k < 32 → (((nI k).toUInt32 &&& Int32.toUInt32 31).toBitVec % 32).toNat = k := by decide +kernel
theorem nI_shl {a k : Nat} (hk : k < 32) (h : a * 2 ^ k < 2 ^ 32) : nI a <<< (nI k &&& 31) = nI (a * 2 ^ k) := by
  rw [nI_k31 k hk]
  exact pk_shlN (nI k) k (nI_smod k hk) h
theorem nI_shl1 {k : Nat} (hk : k < 32) : (1 : Int32) <<< (nI k &&& 31) = nI (2 ^ k) := by
  rw [nI_one, nI_shl hk (by rw [Nat.one_mul]; exact Nat.pow_lt_pow_right (by decide) hk), Nat.one_mul]
theorem nI_shr {n k : Nat} (hk : k < 32) (h : n < 2 ^ 31) : nI n >>> (nI k &&& 31) = nI (n / 2 ^ k) := by
  rw [nI_k31 k hk]
  exact pk_shrN h (nI k) k (nI_smod k hk)
theorem nI_ushr {n k : Nat} (hk : k < 32) (h : n < 2 ^ 32) : ((nI n).toUInt32 >>> ((nI k).toUInt32 &&& Int32.toUInt32 31)).toInt32 = nI (n / 2 ^ k) := pk_ushrN h (nI k) k (nI_ush k hk)
theorem nI_and1 (n : Nat) (h : n < 2 ^ 32) : nI n &&& 1 = nI (n % 2) := by
  rw [pk_andN h (m := 1) 1 (by decide)]
theorem tb_mod (n k : Nat) : n / 2 ^ k % 2 = if n.testBit k = true then 1 else 0 := by
  rw [Nat.testBit_eq_decide_div_mod_eq]
  by_cases h : n / 2 ^ k % 2 = 1
  · simp [h]
  · have : n / 2 ^ k % 2 = 0 := by omega
    simp [this]
/-- a bit, shifted out and masked -/
theorem nI_bit {n k : Nat} (hk : k < 32) (h : n < 2 ^ 31) : (nI n >>> (nI k &&& 31)) &&& 1 = pI (n.testBit k = true) := by
  rw [nI_shr hk h, nI_and1 _ (Nat.lt_of_le_of_lt (Nat.div_le_self _ _) (by omega)), tb_mod]
  by_cases hb : n.testBit k = true
  · rw [if_pos hb, pI_t hb]; rfl
  · rw [if_neg hb, pI_f hb]; rfl
theorem nI_ubit {n k : Nat} (hk : k < 32) (h : n < 2 ^ 31) : (((nI n).toUInt32 >>> ((nI k).toUInt32 &&& Int32.toUInt32 31)).toInt32) &&& 1 = pI (n.testBit k = true) := by
  rw [nI_ushr hk (by omega), nI_and1 _ (Nat.lt_of_le_of_lt (Nat.div_le_self _ _) (by omega)), tb_mod]
  by_cases hb : n.testBit k = true
  · rw [if_pos hb, pI_t hb]; rfl
  · rw [if_neg hb, pI_f hb]; rfl
theorem bitP_nI {n k : Nat} (hk : k < 32) (h : n < 2 ^ 31) : bitP (nI n) (nI k) ↔ n.testBit k = true := by
  unfold bitP
  rw [nI_ubit hk h]
  constructor
  · rintro ⟨-, -, h3⟩
    exact pI_ne.mp h3
  · intro hb
    exact ⟨nI_pos' (by omega), by
      show nI k < nI 32
      exact nI_lt hk (by omega), pI_ne.mpr hb⟩
theorem tb_or (a b k : Nat) : (a ||| 2 ^ b).testBit k = true ↔ a.testBit k = true ∨ k = b := by
  rw [Nat.testBit_or, Nat.testBit_two_pow]
  simp only [Bool.or_eq_true, decide_eq_true_eq]
  constructor
  · rintro (h | h)
    · exact Or.inl h
    · exact Or.inr h.symm
  · rintro (h | h)
    · exact Or.inl h
    · exact Or.inr h.symm
theorem tb_clr (a b k : Nat) (hk : k < 32) : (a &&& (2 ^ b ^^^ 4294967295)).testBit k = true ↔ a.testBit k = true ∧ k ≠ b := by
  rw [Nat.testBit_and, Nat.testBit_xor, Nat.testBit_two_pow]
  have h1 : (4294967295 : Nat).testBit k = true := by
    have : ∀ k, k < 32 → (4294967295 : Nat).testBit k = true := by decide +kernel
    exact this k hk
  rw [h1]
  by_cases h : b = k
  · subst h
    simp
  · have h' : k ≠ b := fun e => h e.symm
    simp [h, h']
theorem or_lt {a b m : Nat} (ha : a < 2 ^ m) (hb : b < m) : a ||| 2 ^ b < 2 ^ m := Nat.or_lt_two_pow ha (Nat.pow_lt_pow_right (by decide) hb)
