/-! PICTURES: what the cells of both sides hold, in numbers: n (diggers, spades, yards), c (rows 0 .. 6: strength, pace, hand, sharp, whom, deep, soil), now: v (0 .. 2: round, beats, all earth), u (3 who, 4 with, 5 broken, 6 .. threw, 12 .. out), yd (the yard that is dug) -/
def X5 (st : mSt) (n : Nat → Nat) (c : Nat → Nat → Nat) : Prop := st.1 5 0 = nI (n 0) ∧ st.1 5 1 = nI (n 1) ∧ st.1 5 2 = nI (n 2) ∧ (∀ d, d < n 0 → st.1 6 d = nI (c 0 d) ∧ st.1 7 d = nI (c 1 d) ∧ st.1 8 d = nI (c 2 d)) ∧ (∀ s, s < n 1 → st.1 9 s = nI (c 3 s) ∧ st.1 10 s = nI (c 4 s)) ∧ (∀ y, y < n 2 → st.1 11 y = nI (c 5 y) ∧ st.1 12 y = nI (c 6 y))
def X13 (st : mSt) (n : Nat → Nat) (c : Nat → Nat → Nat) : Prop := st.1 13 0 = nI (n 0) ∧ st.1 13 1 = nI (n 1) ∧ st.1 13 2 = nI (n 2) ∧ (∀ d, d < n 0 → st.1 14 d = nI (c 0 d) ∧ st.1 15 d = nI (c 1 d) ∧ st.1 16 d = nI (c 2 d)) ∧ (∀ s, s < n 1 → st.1 17 s = nI (c 3 s) ∧ st.1 18 s = nI (c 4 s)) ∧ (∀ y, y < n 2 → st.1 19 y = nI (c 5 y) ∧ st.1 20 y = nI (c 6 y))
def XC (st : mSt) (g : Nat) (n : Nat → Nat) (c : Nat → Nat → Nat) : Prop := (g = 5 ∧ X5 st n c) ∨ (g = 13 ∧ X13 st n c)
def MR (st : mSt) (n : Nat → Nat) (c : Nat → Nat → Nat) : Prop := st.1 55 0 = nI (n 0) ∧ st.1 59 0 = nI (n 1) ∧ st.1 62 0 = nI (n 2) ∧ (∀ d, d < n 0 → st.1 56 d = nI (c 0 d) ∧ st.1 57 d = nI (c 1 d) ∧ st.1 58 d = nI (c 2 d)) ∧ (∀ s, s < n 1 → st.1 60 s = nI (c 3 s) ∧ st.1 61 s = nI (c 4 s)) ∧ (∀ y, y < n 2 → st.1 63 y = nI (c 5 y) ∧ st.1 64 y = nI (c 6 y))
def CB (n : Nat → Nat) (c : Nat → Nat → Nat) : Prop := n 0 ≤ 6 ∧ n 1 ≤ 8 ∧ n 2 ≤ 8 ∧ (∀ d, d < n 0 → 1 ≤ c 0 d ∧ c 0 d ≤ 9 ∧ 1 ≤ c 1 d ∧ c 1 d ≤ 9 ∧ c 2 d ≤ 1) ∧ (∀ s, s < n 1 → 1 ≤ c 3 s ∧ c 3 s ≤ 9 ∧ c 4 s ≤ 2) ∧ (∀ y, y < n 2 → 1 ≤ c 5 y ∧ c 5 y ≤ 99 ∧ 1 ≤ c 6 y ∧ c 6 y ≤ 9)
def N21 (st : mSt) (v : Nat → Int32) (u : Nat → Nat) (yd : Nat) : Prop := st.1 21 0 = v 0 ∧ st.1 21 1 = v 1 ∧ st.1 21 2 = v 2 ∧ st.1 21 3 = nI yd ∧ st.1 21 4 = nI (u 3) ∧ st.1 21 5 = nI (u 4) ∧ st.1 21 6 = nI (u 5) ∧ (∀ d, d < 6 → st.1 22 d = nI (u (6 + d))) ∧ (∀ y, y < 8 → st.1 23 y = nI (u (12 + y)))
def N25 (st : mSt) (v : Nat → Int32) (u : Nat → Nat) (yd : Nat) : Prop := st.1 25 0 = v 0 ∧ st.1 25 1 = v 1 ∧ st.1 25 2 = v 2 ∧ st.1 25 3 = nI yd ∧ st.1 25 4 = nI (u 3) ∧ st.1 25 5 = nI (u 4) ∧ st.1 25 6 = nI (u 5) ∧ (∀ d, d < 6 → st.1 26 d = nI (u (6 + d))) ∧ (∀ y, y < 8 → st.1 27 y = nI (u (12 + y)))
def N28 (st : mSt) (v : Nat → Int32) (u : Nat → Nat) (yd : Nat) : Prop := st.1 28 0 = v 0 ∧ st.1 28 1 = v 1 ∧ st.1 28 2 = v 2 ∧ st.1 28 3 = nI yd ∧ st.1 28 4 = nI (u 3) ∧ st.1 28 5 = nI (u 4) ∧ st.1 28 6 = nI (u 5) ∧ (∀ d, d < 6 → st.1 29 d = nI (u (6 + d))) ∧ (∀ y, y < 8 → st.1 30 y = nI (u (12 + y)))
def NM0 (st : mSt) (v : Nat → Int32) (u : Nat → Nat) : Prop := (∀ j, j < 3 → st.1 65 (j) = v j) ∧ ∀ j, 3 ≤ j → j < 20 → st.1 65 (j) = nI (u j)
def NM1 (st : mSt) (v : Nat → Int32) (u : Nat → Nat) : Prop := (∀ j, j < 3 → st.1 65 (20 + j) = v j) ∧ ∀ j, 3 ≤ j → j < 20 → st.1 65 (20 + j) = nI (u j)
def NM2 (st : mSt) (v : Nat → Int32) (u : Nat → Nat) : Prop := (∀ j, j < 3 → st.1 65 (40 + j) = v j) ∧ ∀ j, 3 ≤ j → j < 20 → st.1 65 (40 + j) = nI (u j)
def NB (n : Nat → Nat) (c : Nat → Nat → Nat) (u : Nat → Nat) (yd : Nat) : Prop := (∀ j, 3 ≤ j → j < 12 → u j < 256) ∧ yd ≤ n 2 ∧ ∀ y, y < 8 → (y < yd → u (12 + y) = c 5 y) ∧ (y = yd → y < n 2 → u (12 + y) < c 5 y) ∧ (yd < y → u (12 + y) = 0)
theorem nI_in2 {x : Int32} {m : Nat} (hm : m < 2 ^ 31) (h : 0 ≤ x ∧ x < nI m) : ∃ k : Nat, k < m ∧ x = nI k := by
  obtain ⟨h0, h1⟩ := h
  obtain ⟨j, hj, rfl⟩ := nI_of (x := x) (Int32.not_lt.mpr h0)
  exact ⟨j, (nI_ltI hj hm).mp h1, rfl⟩
theorem nI_in3 {k m : Nat} (hm : m < 2 ^ 31) (h : k < m) : 0 ≤ nI k ∧ nI k < nI m := ⟨nI_pos' (by omega), nI_lt h hm⟩
theorem tbl_out {x : Int32} (N : Nat) (hN : N < 2 ^ 31) (h : ∀ k, k < N + 1 → x ≠ nI k) : x.toInt < 0 ∨ (N : Int) < x.toInt := by
  by_cases h0 : x.toInt < 0
  · exact Or.inl h0
  · by_cases h1 : (N : Int) < x.toInt
    · exact Or.inr h1
    · refine absurd ?_ (h x.toInt.toNat (by omega))
      apply Int32.toInt_inj.mp
      rw [nI_toInt (by omega)]
      omega
theorem XC5 {st : mSt} {n : Nat → Nat} {c : Nat → Nat → Nat} (h : XC st 5 n c) : X5 st n c := by
  rcases h with h | h
  · exact h.2
  · exact absurd h.1 (by decide)
theorem XC13 {st : mSt} {n : Nat → Nat} {c : Nat → Nat → Nat} (h : XC st 13 n c) : X13 st n c := by
  rcases h with h | h
  · exact absurd h.1 (by decide)
  · exact h.2
