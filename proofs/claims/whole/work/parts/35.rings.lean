/-! RINGS: the best parting, found in two orders -/
def str (f : Nat → Nat) (b : Nat) : Nat → Nat
  | 0 => 0
  | k + 1 => if b.testBit k = true then str f b k + f k else str f b k
theorem str_le {f : Nat → Nat} {b m : Nat} : ∀ k, (∀ i, i < k → f i ≤ m) → str f b k ≤ m * k := by
  intro k
  induction k with
  | zero => exact fun _ => Nat.zero_le _
  | succ k ih =>
    intro h
    have h1 := ih (fun i hi => h i (by omega))
    have h2 := h k (by omega)
    have h3 : m * (k + 1) = m * k + m := Nat.mul_succ m k
    show (if b.testBit k = true then str f b k + f k else str f b k) ≤ _
    split <;> omega
/-- what a ring digs in t beats -/
def wgt (n : Nat → Nat) (c : Nat → Nat → Nat) (t b : Nat) : Nat := t / slow (c 1) b (n 0) * str (c 0) b (n 0)
theorem wgt_le {n : Nat → Nat} {c : Nat → Nat → Nat} (hB : CB n c) {t : Nat} (ht : t ≤ 999) (b : Nat) : wgt n c t b ≤ 53946 := by
  have h1 : str (c 0) b (n 0) ≤ 9 * n 0 := str_le (n 0) (fun i hi => (hB.2.2.2.1 i hi).2.1)
  have h2 : t / slow (c 1) b (n 0) ≤ t := Nat.div_le_self _ _
  have h3 := hB.1
  have h4 : t / slow (c 1) b (n 0) * str (c 0) b (n 0) ≤ 999 * 54 := Nat.mul_le_mul (by omega) (by omega)
  exact h4
def kyF (W : Nat → Nat) (k : Nat) : Nat := W (k / 4096) + W (k / 64 % 64) + W (k % 64)
theorem ky_a {a b c : Nat} (hb : b < 64) (hc : c < 64) : (a * 4096 + b * 64 + c) / 4096 = a := by omega
theorem ky_b {a b c : Nat} (hb : b < 64) (hc : c < 64) : (a * 4096 + b * 64 + c) / 64 % 64 = b := by omega
theorem ky_c {a b c : Nat} (hc : c < 64) : (a * 4096 + b * 64 + c) % 64 = c := by omega
/-- b is the best of L: the most by F, the least of those -/
def SP (L : List Nat) (F : Nat → Nat) : Option Nat → Prop
  | none => L = []
  | some b => b ∈ L ∧ ∀ k, k ∈ L → F k < F b ∨ (F k = F b ∧ b ≤ k)
def stX (F : Nat → Nat) (k : Nat) : Option Nat → Option Nat
  | none => some k
  | some b => if F b < F k then some k else some b
def stM (F : Nat → Nat) (k : Nat) : Option Nat → Option Nat
  | none => some k
  | some b => if F b < F k ∨ (F k = F b ∧ k < b) then some k else some b
theorem SP_stM {L : List Nat} {F : Nat → Nat} {T : Option Nat} (h : SP L F T) (k : Nat) : SP (L ++ [k]) F (stM F k T) := by
  rcases T with _ | b
  · refine ⟨List.mem_append_right _ (List.mem_singleton.mpr rfl), fun j hj => ?_⟩
    have hL : L = [] := h
    rw [hL, List.nil_append, List.mem_singleton] at hj
    rw [hj]
    exact Or.inr ⟨rfl, Nat.le_refl _⟩
  · obtain ⟨h1, h2⟩ := h
    show SP (L ++ [k]) F (if F b < F k ∨ (F k = F b ∧ k < b) then some k else some b)
    split
    · rename_i hc
      refine ⟨List.mem_append_right _ (List.mem_singleton.mpr rfl), fun j hj => ?_⟩
      rcases List.mem_append.mp hj with hj | hj
      · have := h2 j hj
        omega
      · rw [List.mem_singleton.mp hj]
        exact Or.inr ⟨rfl, Nat.le_refl _⟩
    · rename_i hc
      refine ⟨List.mem_append_left _ h1, fun j hj => ?_⟩
      rcases List.mem_append.mp hj with hj | hj
      · exact h2 j hj
      · rw [List.mem_singleton.mp hj]
        omega
theorem SP_stX {L : List Nat} {F : Nat → Nat} {T : Option Nat} (h : SP L F T) {k : Nat} (hk : ∀ x, x ∈ L → x < k) : SP (L ++ [k]) F (stX F k T) := by
  have e : stX F k T = stM F k T := by
    rcases T with _ | b
    · rfl
    · have := hk b h.1
      show (if F b < F k then some k else some b) = if F b < F k ∨ (F k = F b ∧ k < b) then some k else some b
      by_cases h1 : F b < F k
      · rw [if_pos h1, if_pos (Or.inl h1)]
      · rw [if_neg h1, if_neg (by omega)]
  rw [e]
  exact SP_stM h k
theorem SP_un {L L' : List Nat} {F : Nat → Nat} {b b' : Nat} (h : SP L F (some b)) (h' : SP L' F (some b')) (h1 : ∀ k, k ∈ L → k ∈ L') (h2 : ∀ k, k ∈ L' → k ∈ L) : b = b' := by
  have a1 := h.2 b' (h2 b' h'.1)
  have a2 := h'.2 b (h1 b h.1)
  omega
/-! the candidates of the class, in its order -/
def andn (a b : Nat) : Nat := a &&& (63 ^^^ b)
def low (r : Nat) : Nat := r &&& (4294967296 - r)
theorem fin64 : ∀ a, a < 64 → ∀ b, b < 64 → andn a b < 64 ∧ (a &&& (b ^^^ 4294967295)) = andn a b ∧ a &&& b < 64 ∧ (a &&& b ≠ 0 → ∃ k, k < 6 ∧ a.testBit k = true ∧ b.testBit k = true) := by
  intro a ha b hb
  have h : ∀ a, a < 64 → ∀ b, b < 64 → andn a b < 64 ∧ (a &&& (b ^^^ 4294967295)) = andn a b := by decide +kernel
  refine ⟨(h a ha b hb).1, (h a ha b hb).2, Nat.lt_of_le_of_lt Nat.and_le_left ha, fun hne => ?_⟩
  obtain ⟨k, hk⟩ := Nat.exists_testBit_of_ne_zero hne
  rw [Nat.testBit_and, Bool.and_eq_true] at hk
  refine ⟨k, ?_, hk.1, hk.2⟩
  by_cases h6 : k < 6
  · exact h6
  · have : a.testBit k = false := Nat.testBit_lt_two_pow (Nat.lt_of_lt_of_le ha (show 2 ^ 6 ≤ 2 ^ k from Nat.pow_le_pow_right (by decide) (by omega)))
    rw [this] at hk
    exact absurd hk.1 (by decide)
theorem low64 : ∀ r, r < 64 → nI r &&& (-(nI r)) = nI (low r) ∧ low r ≤ r ∧ (0 < r → 0 < low r) := by decide +kernel
theorem andn_I {a b : Nat} (ha : a < 64) (hb : b < 64) : nI a &&& (nI b ^^^ (-1)) = nI (andn a b) := by
  rw [nI_m1, nI_xor, nI_and, (fin64 a ha b hb).2.1]
def jL (ring rest lo : Nat) : Nat → List Nat
  | 0 => []
  | k + 1 => if andn (lo + k) rest = 0 ∧ (lo + k) &&& lo ≠ 0 then jL ring rest lo k ++ [ring * 4096 + (lo + k) * 64 + andn rest (lo + k)] else jL ring rest lo k
def cL (all g ring : Nat) : List Nat := if andn all ring = 0 then [ring * 4096 + 0 * 64 + 0] else if g = 2 then [ring * 4096 + andn all ring * 64 + 0] else if g = 3 then jL ring (andn all ring) (low (andn all ring)) (andn all ring - low (andn all ring) + 1) else []
def xL (all g : Nat) : Nat → List Nat
  | 0 => []
  | i + 1 => xL all g i ++ cL all g (2 * i + 1)
theorem jL_lt {ring rest lo : Nat} (hr : rest < 64) : ∀ k, lo + k ≤ 64 → ∀ x, x ∈ jL ring rest lo k → x < ring * 4096 + (lo + k) * 64 := by
  intro k
  induction k with
  | zero => exact fun _ x hx => absurd hx (List.not_mem_nil)
  | succ k ih =>
    intro hk x hx
    have h1 := (fin64 rest hr (lo + k) (by omega)).1
    by_cases hc : andn (lo + k) rest = 0 ∧ (lo + k) &&& lo ≠ 0
    · rw [show jL ring rest lo (k + 1) = jL ring rest lo k ++ [ring * 4096 + (lo + k) * 64 + andn rest (lo + k)] from if_pos hc] at hx
      rcases List.mem_append.mp hx with hx | hx
      · have := ih (by omega) x hx
        omega
      · rw [List.mem_singleton.mp hx]
        omega
    · rw [show jL ring rest lo (k + 1) = jL ring rest lo k from if_neg hc] at hx
      have := ih (by omega) x hx
      omega
theorem cL_lt {all g ring : Nat} (ha : all < 64) (hr : ring < 64) : ∀ x, x ∈ cL all g ring → x < ring * 4096 + 4096 := by
  intro x hx
  have h1 := (fin64 all ha ring hr).1
  have h2 := low64 _ h1
  unfold cL at hx
  split at hx
  · rw [List.mem_singleton.mp hx]
    omega
  · split at hx
    · rw [List.mem_singleton.mp hx]
      omega
    · split at hx
      · have := jL_lt h1 _ (show low (andn all ring) + (andn all ring - low (andn all ring) + 1) ≤ 64 by omega) x hx
        omega
      · exact absurd hx (List.not_mem_nil)
theorem ar1 {x r : Nat} (h : x < r * 4096 + 4096) : x / 4096 < r + 1 := by omega
theorem ar2 {x r : Nat} (h : x / 4096 < r) : x < r * 4096 := by omega
theorem xL_lt {all g : Nat} (ha : all < 64) : ∀ i, i ≤ 32 → ∀ x, x ∈ xL all g i → x / 4096 < 2 * i := by
  intro i
  induction i with
  | zero => exact fun _ x hx => absurd hx (List.not_mem_nil)
  | succ i ih =>
    intro hi x hx
    rcases List.mem_append.mp hx with hx | hx
    · have h1 := ih (by omega) x hx
      exact Nat.lt_of_lt_of_le h1 (by omega)
    · exact Nat.lt_of_lt_of_le (ar1 (cL_lt ha (show 2 * i + 1 < 64 by omega) x hx)) (by omega)
/-! the candidates of the model: figures to the base of three -/
def pm (g code : Nat) : Nat → Option (Nat × Nat × Nat × Nat × Nat)
  | 0 => some (code, 0, 0, 0, 0)
  | d + 1 => match pm g code d with
    | none => none
    | some (r, t, a, b, c) => if t < r % 3 ∨ g ≤ r % 3 then none else some (r / 3, (if r % 3 = t then t + 1 else t), (if r % 3 = 0 then a ||| 2 ^ d else a), (if r % 3 = 1 then b ||| 2 ^ d else b), (if r % 3 = 2 then c ||| 2 ^ d else c))
def pK (g code n : Nat) : Option Nat := match pm g code n with
  | none => none
  | some (_, _, a, b, c) => some (a * 4096 + b * 64 + c)
def mL (n g : Nat) : Nat → List Nat
  | 0 => []
  | i + 1 => match pK g i n with
    | none => mL n g i
    | some k => mL n g i ++ [k]
theorem pm_none {g code d : Nat} (h : pm g code d = none) : ∀ m, d ≤ m → pm g code m = none := by
  intro m hm
  induction m with
  | zero =>
    obtain rfl : d = 0 := by omega
    exact h
  | succ m ih =>
    by_cases e : d = m + 1
    · rw [← e]
      exact h
    · show (match pm g code m with | none => none | some (r, t, a, b, c) => _) = none
      rw [ih (by omega)]
theorem pm_out {g code d r t a b c : Nat} (h : pm g code d = some (r, t, a, b, c)) (hk : t < r % 3 ∨ g ≤ r % 3) : pm g code (d + 1) = none := by
  show (match pm g code d with | none => none | some (r, t, a, b, c) => if t < r % 3 ∨ g ≤ r % 3 then none else some (r / 3, (if r % 3 = t then t + 1 else t), (if r % 3 = 0 then a ||| 2 ^ d else a), (if r % 3 = 1 then b ||| 2 ^ d else b), (if r % 3 = 2 then c ||| 2 ^ d else c))) = none
  rw [h]
  exact if_pos hk
theorem pm_on {g code d r t a b c : Nat} (h : pm g code d = some (r, t, a, b, c)) (hk : ¬ (t < r % 3 ∨ g ≤ r % 3)) : pm g code (d + 1) = some (r / 3, (if r % 3 = t then t + 1 else t), (if r % 3 = 0 then a ||| 2 ^ d else a), (if r % 3 = 1 then b ||| 2 ^ d else b), (if r % 3 = 2 then c ||| 2 ^ d else c)) := by
  show (match pm g code d with | none => none | some (r, t, a, b, c) => if t < r % 3 ∨ g ≤ r % 3 then none else some (r / 3, (if r % 3 = t then t + 1 else t), (if r % 3 = 0 then a ||| 2 ^ d else a), (if r % 3 = 1 then b ||| 2 ^ d else b), (if r % 3 = 2 then c ||| 2 ^ d else c))) = _
  rw [h]
  exact if_neg hk
theorem pK_none {g code n : Nat} (h : pm g code n = none) : pK g code n = none := by
  show (match pm g code n with | none => none | some (_, _, a, b, c) => some (a * 4096 + b * 64 + c)) = none
  rw [h]
theorem pK_some {g code n r t a b c : Nat} (h : pm g code n = some (r, t, a, b, c)) : pK g code n = some (a * 4096 + b * 64 + c) := by
  show (match pm g code n with | none => none | some (_, _, a, b, c) => some (a * 4096 + b * 64 + c)) = _
  rw [h]
theorem mL_none {n g i : Nat} (h : pK g i n = none) : mL n g (i + 1) = mL n g i := by
  show (match pK g i n with | none => mL n g i | some k => mL n g i ++ [k]) = _
  rw [h]
theorem mL_some {n g i k : Nat} (h : pK g i n = some k) : mL n g (i + 1) = mL n g i ++ [k] := by
  show (match pK g i n with | none => mL n g i | some k => mL n g i ++ [k]) = _
  rw [h]
/-- a digger's ring -/
def anX (k d : Nat) : Nat := if (k / 4096).testBit d = true then k / 4096 else if (k / 64 % 64).testBit d = true then k / 64 % 64 else k % 64
def anM (k d : Nat) : Nat := if (k % 64).testBit d = true then k % 64 else if (k / 64 % 64).testBit d = true then k / 64 % 64 else if (k / 4096).testBit d = true then k / 4096 else 0
def chkR (n g : Nat) : Bool :=
  let X := xL (2 ^ n - 1) g (2 ^ (n - 1))
  let M := mL n g 729
  X.all (fun k => M.contains k && (List.range n).all (fun d => anX k d == anM k d)) && M.all (fun k => X.contains k) && !X.isEmpty
theorem chkR_all : ∀ n, n < 7 → 0 < n → ∀ g, g < 4 → 0 < g → chkR n g = true := by decide +kernel
theorem chkR_use {n g : Nat} (hn : n < 7) (hn0 : 0 < n) (hg : g < 4) (hg0 : 0 < g) : (∀ k, k ∈ xL (2 ^ n - 1) g (2 ^ (n - 1)) → k ∈ mL n g 729 ∧ ∀ d, d < n → anX k d = anM k d) ∧ (∀ k, k ∈ mL n g 729 → k ∈ xL (2 ^ n - 1) g (2 ^ (n - 1))) ∧ xL (2 ^ n - 1) g (2 ^ (n - 1)) ≠ [] := by
  have h := chkR_all n hn hn0 g hg hg0
  unfold chkR at h
  rw [Bool.and_eq_true, Bool.and_eq_true, List.all_eq_true, List.all_eq_true] at h
  refine ⟨fun k hk => ?_, fun k hk => List.contains_iff_mem.mp (h.1.2 k hk), fun e => ?_⟩
  rotate_left
  · have h9 := h.2
    rw [e] at h9
    exact absurd h9 (by decide)
  have h1 := h.1.1 k hk
  rw [Bool.and_eq_true, List.all_eq_true] at h1
  exact ⟨List.contains_iff_mem.mp h1.1, fun d hd => eq_of_beq (h1.2 d (List.mem_range.mpr hd))⟩
theorem mL0 : ∀ g, g < 4 → 0 < g → ((mL 0 g 729).all (fun k => k == 0) && !(mL 0 g 729).isEmpty) = true := by decide +kernel
