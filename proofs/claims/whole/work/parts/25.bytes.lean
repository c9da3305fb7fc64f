/-! BYTES of a long, as both sides cut them -/
def bv (v : Int64) (k : Nat) : Nat := v.toBitVec.toNat / 2 ^ (8 * k) % 256
theorem bv_lt (v : Int64) (k : Nat) : bv v k < 256 := Nat.mod_lt _ (by decide)
theorem sh_u : ∀ k, k < 8 → ((Int64.toUInt64 (Int32.toInt64 (nI (8 * k))) &&& Int64.toUInt64 63).toBitVec % 64).toNat = 8 * k := by decide +kernel
theorem sh_s : ∀ k, k < 8 → ((Int32.toInt64 (nI (8 * k)) &&& 63).toBitVec.smod 64).toNat = 8 * k := by decide +kernel
theorem x_byte (v : Int64) {k : Nat} (hk : k < 8) : (Int64.toInt32 ((Int64.toUInt64 v >>> (Int64.toUInt64 (Int32.toInt64 (nI (8 * k))) &&& Int64.toUInt64 63)).toInt64)) &&& 255 = nI (bv v k) := by
  rw [pk_and _ 8 (by decide)]
  have e : (Int64.toInt32 ((Int64.toUInt64 v >>> (Int64.toUInt64 (Int32.toInt64 (nI (8 * k))) &&& Int64.toUInt64 63)).toInt64)).toBitVec.toNat % 2 ^ 8 = bv v k := by
    show (BitVec.signExtend 32 (v.toBitVec >>> ((Int64.toUInt64 (Int32.toInt64 (nI (8 * k))) &&& Int64.toUInt64 63).toBitVec % 64))).toNat % 2 ^ 8 = _
    rw [BitVec.signExtend_eq_setWidth_of_le _ (by decide), BitVec.toNat_setWidth, BitVec.ushiftRight_eq', BitVec.toNat_ushiftRight, sh_u k hk, Nat.shiftRight_eq_div_pow, Nat.mod_mod_of_dvd _ (by decide)]
    rfl
  rw [e]
theorem sar_low (x : BitVec 64) {n : Nat} (hn : n + 8 ≤ 64) : (x.sshiftRight n).toNat % 2 ^ 8 = x.toNat / 2 ^ n % 2 ^ 8 := by
  apply Nat.eq_of_testBit_eq
  intro i
  rw [Nat.testBit_mod_two_pow, Nat.testBit_mod_two_pow, BitVec.testBit_toNat, BitVec.getLsbD_sshiftRight, Nat.testBit_div_two_pow, BitVec.testBit_toNat]
  by_cases hi : i < 8
  · have h1 : ¬ 64 ≤ i := by omega
    have h2 : n + i < 64 := by omega
    simp [hi, h1, h2, Nat.add_comm]
  · simp [hi]
theorem m_byte (v : Int64) {k : Nat} (hk : k < 8) : Int64.toInt32 ((v >>> (Int32.toInt64 (nI (8 * k)) &&& 63)) &&& 255) = nI (bv v k) := by
  apply i32_ext
  show (BitVec.signExtend 32 ((v.toBitVec.sshiftRight ((Int32.toInt64 (nI (8 * k)) &&& 63).toBitVec.smod 64).toNat) &&& 255#64)).toNat = _
  rw [BitVec.signExtend_eq_setWidth_of_le _ (by decide), BitVec.toNat_setWidth, BitVec.toNat_and, sh_s k hk]
  have e : (255#64).toNat = 2 ^ 8 - 1 := by decide
  rw [e, Nat.and_two_pow_sub_one_eq_mod, sar_low _ (by omega), nI_toNat]
  rfl
/-- a byte as the model keeps it -/
def sb (x : Nat) : Int32 := Int8.toInt32 (Int32.toInt8 (nI x))
theorem sb_nar (x : Nat) : vp_nar .byte (Int8.toInt32 (Int32.toInt8 (nI x))) = sb x := pk_vb _
theorem sb_and : ∀ x, x < 256 → sb x &&& 255 = nI x := by decide +kernel
/-- n bytes of v behind the first L -/
def app (b : Nat → Nat) (L : Nat) (v : Int64) : Nat → Nat → Nat
  | 0 => b
  | k + 1 => app (updN b L (bv v k)) (L + 1) v k
theorem app_lt {v : Int64} : ∀ k b L, (∀ j, j < L → b j < 256) → ∀ j, j < L + k → app b L v k j < 256 := by
  intro k
  induction k with
  | zero => exact fun b L h j hj => h j hj
  | succ k ih =>
    intro b L h j hj
    refine ih (updN b L (bv v k)) (L + 1) (fun i hi => ?_) j (by omega)
    by_cases e : i = L
    · subst e
      rw [updN_s]
      exact bv_lt v k
    · rw [updN_n e]
      exact h i (by omega)
def XS (st : mSt) (L : Nat) (b : Nat → Nat) : Prop := st.1 1 0 = nI L ∧ ∀ j, j < L → st.1 2 j = nI (b j)
def MS (st : mSt) (L : Nat) (b : Nat → Nat) : Prop := st.1 53 2 = nI L ∧ ∀ j, j < L → st.1 54 j = sb (b j)
theorem XS_add {st : mSt} {L : Nat} {b : Nat → Nat} (h : XS st L b) (x : Nat) : XS (mU (mU st.1 2 L (nI x)) 1 0 (nI (L + 1)), st.2) (L + 1) (updN b L x) := by
  refine ⟨rfl, fun j hj => ?_⟩
  show mU st.1 2 L (nI x) 2 j = _
  by_cases e : j = L
  · subst e
    rw [updN_s]
    exact mU_at
  · rw [updN_n e, mU_row e]
    exact h.2 j (by omega)
theorem MS_add {st : mSt} {L : Nat} {b : Nat → Nat} (h : MS st L b) (x : Nat) : MS (mU (mU st.1 54 L (sb x)) 53 2 (nI (L + 1)), st.2) (L + 1) (updN b L x) := by
  refine ⟨rfl, fun j hj => ?_⟩
  show mU st.1 54 L (sb x) 54 j = _
  by_cases e : j = L
  · subst e
    rw [updN_s]
    exact mU_at
  · rw [updN_n e, mU_row e]
    exact h.2 j (by omega)
theorem XS_fr {S : List Nat} {st st1 : mSt} {L : Nat} {b : Nat → Nat} (hf : Fr S st st1) (hS : ∀ p, p ∈ [2] → p ∉ S) (h0 : st1.1 1 0 = st.1 1 0) (h : XS st L b) : XS st1 L b := by
  unfold XS at h ⊢
  rw [h0, hf.1 2 (hS 2 (by decide))]
  exact h
theorem MS_fr {S : List Nat} {st st1 : mSt} {L : Nat} {b : Nat → Nat} (hf : Fr S st st1) (hS : ∀ p, p ∈ [54] → p ∉ S) (h0 : st1.1 53 2 = st.1 53 2) (h : MS st L b) : MS st1 L b := by
  unfold MS at h ⊢
  rw [h0, hf.1 54 (hS 54 (by decide))]
  exact h
