/-! LONGS of small numbers; the bits of a long counted -/
def lI (n : Nat) : Int64 := Int64.ofNat n
theorem lI_toNat (n : Nat) : (lI n).toBitVec.toNat = n % 2 ^ 64 := by
  show (Int64.ofNat n).toBitVec.toNat = _
  rfl
theorem i64_ext {x y : Int64} (h : x.toBitVec.toNat = y.toBitVec.toNat) : x = y := Int64.toBitVec_inj.mp (BitVec.eq_of_toNat_eq h)
theorem lI_and (a b : Nat) : lI a &&& lI b = lI (a &&& b) := by
  apply i64_ext
  rw [Int64.toBitVec_and, BitVec.toNat_and, lI_toNat, lI_toNat, lI_toNat, Nat.and_mod_two_pow]
theorem lI_or (a b : Nat) : lI a ||| lI b = lI (a ||| b) := by
  apply i64_ext
  rw [Int64.toBitVec_or, BitVec.toNat_or, lI_toNat, lI_toNat, lI_toNat, Nat.or_mod_two_pow]
theorem lI_add (a b : Nat) : lI a + lI b = lI (a + b) := by
  apply i64_ext
  rw [Int64.toBitVec_add, BitVec.toNat_add, lI_toNat, lI_toNat, lI_toNat]
  omega
theorem lI_toInt {n : Nat} (h : n < 2 ^ 63) : (lI n).toInt = n := lg_ofNat_toInt h
theorem lI_of {x : Int64} {n : Nat} (hn : n < 2 ^ 63) (h : x.toInt = n) : x = lI n := Int64.toInt_inj.mp (by rw [h, lI_toInt hn])
theorem lI_sub {a b : Nat} (hb : b ≤ a) (ha : a < 2 ^ 63) : lI a - lI b = lI (a - b) := by
  apply i64_ext
  rw [Int64.toBitVec_sub, BitVec.toNat_sub, lI_toNat, lI_toNat, lI_toNat]
  omega
theorem lI_ush {n k : Nat} {m : UInt64} (hm : m.toNat = k) (hk : k < 64) (hn : n < 2 ^ 63) : ((lI n).toUInt64 >>> m).toInt64 = lI (n / 2 ^ k) := by
  apply i64_ext
  show ((lI n).toBitVec >>> (m.toBitVec % 64)).toNat = _
  have hm2 : (m.toBitVec % 64).toNat = k := by
    rw [BitVec.toNat_umod]
    show m.toNat % 64 = k
    omega
  rw [BitVec.ushiftRight_eq', BitVec.toNat_ushiftRight, hm2, lI_toNat, lI_toNat, Nat.shiftRight_eq_div_pow, Nat.mod_eq_of_lt (show n < 2 ^ 64 by omega), Nat.mod_eq_of_lt (Nat.lt_of_le_of_lt (Nat.div_le_self _ _) (show n < 2 ^ 64 by omega))]
theorem lI_shl1 : ∀ k, k < 48 → (1 : Int64) <<< (Int32.toInt64 (nI k) &&& 63) = lI (2 ^ k) := by decide +kernel
theorem lI_z {n : Nat} (h : n < 2 ^ 63) : lg_cmp (lI n) 0 = 0 ↔ n = 0 := by
  rw [lg_cmp_eq]
  constructor
  · intro e
    have := congrArg Int64.toInt e
    rw [lI_toInt h] at this
    have e0 : (0 : Int64).toInt = 0 := rfl
    omega
  · intro e
    rw [e]
    rfl
theorem lI_lo {n : Nat} : (lI n).toInt32 = nI n := by
  apply i32_ext
  rw [nI_toNat]
  show ((lI n).toBitVec.signExtend 32).toNat = _
  rw [BitVec.signExtend_eq_setWidth_of_le _ (by decide), BitVec.toNat_setWidth, lI_toNat]
  omega
/-! bytes -/
def hor : List Nat → Nat
  | [] => 0
  | b :: t => 256 * hor t + b
theorem and_b {a m b k : Nat} (hb : b < 256) (hk : k < 256) : (256 * a + b) &&& (256 * m + k) = 256 * (a &&& m) + (b &&& k) := by
  apply Nat.eq_of_testBit_eq
  intro i
  have hbk : b &&& k < 2 ^ 8 := Nat.lt_of_le_of_lt Nat.and_le_left hb
  rw [Nat.testBit_and, show (256 : Nat) = 2 ^ 8 from rfl, Nat.testBit_two_pow_mul_add _ hb, Nat.testBit_two_pow_mul_add _ hk, Nat.testBit_two_pow_mul_add _ hbk]
  split
  · rw [Nat.testBit_and]
  · rw [Nat.testBit_and]
def rep (m : Nat) : Nat → Nat
  | 0 => 0
  | k + 1 => 256 * rep m k + m
def l1 (k n : Nat) : Nat := n - ((n / 2) &&& rep 85 k)
def l2 (k n : Nat) : Nat := (n &&& rep 51 k) + ((n / 4) &&& rep 51 k)
def l3 (k n : Nat) : Nat := (n + n / 16) &&& rep 15 k
def t1 (b : Nat) : Nat := b - ((b / 2) &&& 85)
def t2 (b : Nat) : Nat := (b &&& 51) + ((b / 4) &&& 51)
def t3 (b : Nat) : Nat := (b + b / 16) &&& 15
theorem f1 : ∀ b, b < 256 → ∀ e, e < 2 → ((128 * e + b / 2) &&& 85) = ((b / 2) &&& 85) ∧ ((b / 2) &&& 85) ≤ b := by decide +kernel
theorem f2 : ∀ b, b < 256 → ∀ e, e < 4 → ((64 * e + b / 4) &&& 51) = ((b / 4) &&& 51) := by decide +kernel
theorem f3 : ∀ b, b < 256 → ∀ e, e < 5 → b % 16 ≤ 4 → b / 16 ≤ 4 → b + b / 16 + 16 * e < 256 ∧ ((b + b / 16 + 16 * e) &&& 15) = t3 b := by decide +kernel
theorem f4 : ∀ b, b < 256 → t1 b < 256 ∧ t2 (t1 b) < 256 ∧ t2 (t1 b) % 16 ≤ 4 ∧ t2 (t1 b) / 16 ≤ 4 ∧ t3 (t2 (t1 b)) = pop b 8 ∧ pop b 8 ≤ 8 := by decide +kernel
theorem l1_b (k n : Nat) {b : Nat} (hb : b < 256) : l1 (k + 1) (256 * n + b) = 256 * l1 k n + t1 b := by
  obtain ⟨h1, h2⟩ := f1 b hb (n % 2) (by omega)
  have e : (256 * n + b) / 2 = 256 * (n / 2) + (128 * (n % 2) + b / 2) := by omega
  have h3 : (n / 2) &&& rep 85 k ≤ n / 2 := Nat.and_le_left
  show 256 * n + b - (((256 * n + b) / 2) &&& (256 * rep 85 k + 85)) = 256 * (n - ((n / 2) &&& rep 85 k)) + (b - ((b / 2) &&& 85))
  rw [e, and_b (by omega) (by decide), h1]
  omega
theorem l2_b (k n : Nat) {b : Nat} (hb : b < 256) : l2 (k + 1) (256 * n + b) = 256 * l2 k n + t2 b := by
  have h1 := f2 b hb (n % 4) (by omega)
  have e : (256 * n + b) / 4 = 256 * (n / 4) + (64 * (n % 4) + b / 4) := by omega
  show ((256 * n + b) &&& (256 * rep 51 k + 51)) + (((256 * n + b) / 4) &&& (256 * rep 51 k + 51)) = 256 * ((n &&& rep 51 k) + ((n / 4) &&& rep 51 k)) + ((b &&& 51) + ((b / 4) &&& 51))
  rw [e, and_b hb (k := 51) (by decide), and_b (b := 64 * (n % 4) + b / 4) (k := 51) (by omega) (by decide), h1]
  omega
theorem l3_b (k n : Nat) {b : Nat} (hb : b < 256) (h1 : b % 16 ≤ 4) (h2 : b / 16 ≤ 4) (h3 : n % 16 ≤ 4) : l3 (k + 1) (256 * n + b) = 256 * l3 k n + t3 b := by
  obtain ⟨h4, h5⟩ := f3 b hb (n % 16) (by omega) h1 h2
  have e : 256 * n + b + (256 * n + b) / 16 = 256 * (n + n / 16) + (b + b / 16 + 16 * (n % 16)) := by omega
  show ((256 * n + b + (256 * n + b) / 16) &&& (256 * rep 15 k + 15)) = 256 * ((n + n / 16) &&& rep 15 k) + t3 b
  rw [e, and_b h4 (by decide), h5]
theorem l1_h (j : Nat) : ∀ t, (∀ b, b ∈ t → b < 256) → l1 (t.length + j) (hor t) = hor (t.map t1) := by
  intro t
  induction t with
  | nil => intro _; show 0 - _ = 0; exact Nat.zero_sub _
  | cons b t ih =>
    intro h
    rw [show (b :: t).length + j = t.length + j + 1 from by rw [List.length_cons]; omega]
    show l1 (t.length + j + 1) (256 * hor t + b) = 256 * hor (t.map t1) + t1 b
    rw [l1_b _ _ (h b (List.mem_cons_self ..)), ih (fun x hx => h x (List.mem_cons_of_mem _ hx))]
theorem l2_h (j : Nat) : ∀ t, (∀ b, b ∈ t → b < 256) → l2 (t.length + j) (hor t) = hor (t.map t2) := by
  intro t
  induction t with
  | nil => intro _; show (0 &&& _) + (0 / 4 &&& _) = 0; rw [Nat.zero_div, Nat.zero_and]
  | cons b t ih =>
    intro h
    rw [show (b :: t).length + j = t.length + j + 1 from by rw [List.length_cons]; omega]
    show l2 (t.length + j + 1) (256 * hor t + b) = 256 * hor (t.map t2) + t2 b
    rw [l2_b _ _ (h b (List.mem_cons_self ..)), ih (fun x hx => h x (List.mem_cons_of_mem _ hx))]
theorem l3_h (j : Nat) : ∀ t, (∀ b, b ∈ t → b < 256 ∧ b % 16 ≤ 4 ∧ b / 16 ≤ 4) → l3 (t.length + j) (hor t) = hor (t.map t3) := by
  intro t
  induction t with
  | nil => intro _; show (0 + 0 / 16 &&& _) = 0; rw [Nat.zero_div, Nat.zero_and]
  | cons b t ih =>
    intro h
    obtain ⟨h1, h2, h3⟩ := h b (List.mem_cons_self ..)
    rw [show (b :: t).length + j = t.length + j + 1 from by rw [List.length_cons]; omega]
    show l3 (t.length + j + 1) (256 * hor t + b) = 256 * hor (t.map t3) + t3 b
    have h4 : hor t % 16 ≤ 4 := by
      cases t with
      | nil => exact Nat.zero_le _
      | cons c t =>
        have := (h c (List.mem_cons_of_mem _ (List.mem_cons_self ..))).2.1
        show (256 * hor t + c) % 16 ≤ 4
        omega
    rw [l3_b _ _ h1 h2 h3 h4, ih (fun x hx => h x (List.mem_cons_of_mem _ hx))]
theorem pop_sm (n : Nat) : ∀ k, pop n k = sm (fun p => if n.testBit p = true then 1 else 0) k := by
  intro k
  induction k with
  | zero => rfl
  | succ k ih =>
    show pop n k + _ = sm _ k + _
    rw [ih]
theorem pop_b {n b : Nat} (hb : b < 256) : ∀ k, pop (256 * n + b) (8 + k) = pop b 8 + pop n k := by
  have hb8 : b < 2 ^ 8 := hb
  intro k
  induction k with
  | zero =>
    rw [pop_sm, pop_sm]
    refine sm_congr 8 (fun p hp => ?_)
    rw [show (256 : Nat) = 2 ^ 8 from rfl, Nat.testBit_two_pow_mul_add _ hb8, if_pos hp]
  | succ k ih =>
    show pop (256 * n + b) (8 + k) + (if (256 * n + b).testBit (8 + k) = true then 1 else 0) = pop b 8 + (pop n k + (if n.testBit k = true then 1 else 0))
    rw [ih, show (256 : Nat) = 2 ^ 8 from rfl, Nat.testBit_two_pow_mul_add _ hb8, if_neg (show ¬ 8 + k < 8 by omega), Nat.add_sub_cancel_left]
    omega
def lsum : List Nat → Nat
  | [] => 0
  | b :: t => lsum t + b
theorem pop_h : ∀ t, (∀ b, b ∈ t → b < 256) → pop (hor t) (8 * t.length) = lsum (t.map (fun b => pop b 8)) := by
  intro t
  induction t with
  | nil => intro _; rfl
  | cons b t ih =>
    intro h
    rw [List.length_cons, show 8 * (t.length + 1) = 8 + 8 * t.length from by omega]
    show pop (256 * hor t + b) _ = lsum (t.map (fun b => pop b 8)) + pop b 8
    rw [pop_b (h b (List.mem_cons_self ..)), ih (fun x hx => h x (List.mem_cons_of_mem _ hx))]
    omega
def byts (n : Nat) : List Nat := [n % 256, n / 256 % 256, n / 65536 % 256, n / 16777216 % 256, n / 4294967296 % 256, n / 1099511627776 % 256]
theorem byts_lt (n : Nat) : ∀ b, b ∈ byts n → b < 256 := by
  intro b hb
  simp only [byts, List.mem_cons, List.not_mem_nil, or_false] at hb
  omega
theorem byts_hor {n : Nat} (h : n < 2 ^ 48) : hor (byts n) = n := by
  simp only [byts, hor]
  omega
def l4 (n : Nat) : Nat := n + n / 256
def l5 (n : Nat) : Nat := n + n / 65536
def l6 (n : Nat) : Nat := n + n / 4294967296
theorem lbc {n : Nat} (h : n < 2 ^ 48) : l1 8 n < 2 ^ 48 ∧ l2 8 (l1 8 n) < 2 ^ 48 ∧ l3 8 (l2 8 (l1 8 n)) < 2 ^ 48 ∧ l6 (l5 (l4 (l3 8 (l2 8 (l1 8 n))))) % 128 = pop n 48 ∧ pop n 48 ≤ 48 := by
  have hb := byts_lt n
  have e0 := byts_hor h
  have e1 : l1 8 n = hor ((byts n).map t1) := by
    have := l1_h 2 (byts n) hb
    rw [e0] at this
    exact this
  have hb1 : ∀ b, b ∈ (byts n).map t1 → b < 256 := by
    intro b hm
    obtain ⟨a, ha, rfl⟩ := List.mem_map.mp hm
    exact (f4 a (hb a ha)).1
  have e2 : l2 8 (l1 8 n) = hor (((byts n).map t1).map t2) := by
    rw [e1]
    exact l2_h 2 ((byts n).map t1) hb1
  have hb2 : ∀ b, b ∈ ((byts n).map t1).map t2 → b < 256 ∧ b % 16 ≤ 4 ∧ b / 16 ≤ 4 := by
    intro b hm
    obtain ⟨a, ha, rfl⟩ := List.mem_map.mp hm
    obtain ⟨c, hc, rfl⟩ := List.mem_map.mp ha
    have := f4 c (hb c hc)
    exact ⟨this.2.1, this.2.2.1, this.2.2.2.1⟩
  have e3 : l3 8 (l2 8 (l1 8 n)) = hor ((((byts n).map t1).map t2).map t3) := by
    rw [e2]
    exact l3_h 2 _ hb2
  have ep : pop n 48 = lsum ((byts n).map (fun b => pop b 8)) := by
    have := pop_h (byts n) hb
    rw [e0] at this
    exact this
  have g : ∀ x, x ∈ byts n → t3 (t2 (t1 x)) = pop x 8 ∧ pop x 8 ≤ 8 := fun x hx => ⟨(f4 x (hb x hx)).2.2.2.2.1, (f4 x (hb x hx)).2.2.2.2.2⟩
  have q1 := fun x hx => (f4 x (hb x hx)).1
  have q2 := fun x hx => (f4 x (hb x hx)).2.1
  rw [e3, e2, e1, ep]
  unfold byts at g q1 q2 ⊢
  generalize n % 256 = x0 at *
  generalize n / 256 % 256 = x1 at *
  generalize n / 65536 % 256 = x2 at *
  generalize n / 16777216 % 256 = x3 at *
  generalize n / 4294967296 % 256 = x4 at *
  generalize n / 1099511627776 % 256 = x5 at *
  simp only [List.mem_cons, List.not_mem_nil, or_false, forall_eq_or_imp, forall_eq] at g q1 q2
  simp only [List.map_cons, List.map_nil, hor, lsum, l4, l5, l6]
  obtain ⟨⟨g0, g0'⟩, ⟨g1, g1'⟩, ⟨g2, g2'⟩, ⟨g3, g3'⟩, ⟨g4, g4'⟩, g5, g5'⟩ := g
  obtain ⟨a0, a1, a2, a3, a4, a5⟩ := q1
  obtain ⟨b0, b1, b2, b3, b4, b5⟩ := q2
  rw [g0, g1, g2, g3, g4, g5]
  refine ⟨by omega, by omega, by omega, ?_, by omega⟩
  generalize pop x0 8 = p0 at *
  generalize pop x1 8 = p1 at *
  generalize pop x2 8 = p2 at *
  generalize pop x3 8 = p3 at *
  generalize pop x4 8 = p4 at *
  generalize pop x5 8 = p5 at *
  have c1 : (256 * (256 * (256 * (256 * (256 * (256 * 0 + p5) + p4) + p3) + p2) + p1) + p0) / 256 = 256 * (256 * (256 * (256 * p5 + p4) + p3) + p2) + p1 := by omega
  rw [c1]
  have c2 : (256 * (256 * (256 * (256 * (256 * (256 * 0 + p5) + p4) + p3) + p2) + p1) + p0 + (256 * (256 * (256 * (256 * p5 + p4) + p3) + p2) + p1)) / 65536 = 256 * (256 * (256 * p5 + (p4 + p5)) + (p3 + p4)) + (p2 + p3) := by omega
  rw [c2]
  have c3 : (256 * (256 * (256 * (256 * (256 * (256 * 0 + p5) + p4) + p3) + p2) + p1) + p0 + (256 * (256 * (256 * (256 * p5 + p4) + p3) + p2) + p1) + (256 * (256 * (256 * p5 + (p4 + p5)) + (p3 + p4)) + (p2 + p3))) / 4294967296 = 256 * p5 + (p4 + p5) := by omega
  rw [c3]
  omega
/-! sums of bits -/
theorem sm_mul (f : Nat → Nat) (b : Nat) : ∀ a, sm f (b * a) = sm (fun i => sm (fun j => f (b * i + j)) b) a := by
  have h : ∀ m k, sm f (m + k) = sm f m + sm (fun j => f (m + j)) k := by
    intro m k
    induction k with
    | zero => rfl
    | succ k ih =>
      show sm f (m + k) + f (m + k) = sm f m + (sm (fun j => f (m + j)) k + f (m + k))
      omega
  intro a
  induction a with
  | zero => rfl
  | succ a ih =>
    show sm f (b * (a + 1)) = sm (fun i => sm (fun j => f (b * i + j)) b) a + sm (fun j => f (b * a + j)) b
    rw [Nat.mul_add, Nat.mul_one, h, ih]
theorem sm_swap (f : Nat → Nat → Nat) (b : Nat) : ∀ a, sm (fun i => sm (fun j => f i j) b) a = sm (fun j => sm (fun i => f i j) a) b := by
  intro a
  induction a with
  | zero => exact (sm_zero b (fun _ _ => rfl)).symm
  | succ a ih =>
    show sm (fun i => sm (fun j => f i j) b) a + sm (fun j => f a j) b = sm (fun j => sm (fun i => f i j) a + f a j) b
    rw [ih, ← sm_add]
theorem sm_lt {f g : Nat → Nat} : ∀ a, (∀ k, k < a → g k ≤ f k) → (sm g a < sm f a ↔ ∃ k, k < a ∧ g k < f k) := by
  intro a
  induction a with
  | zero => exact fun _ => ⟨fun h => absurd h (Nat.lt_irrefl _), fun ⟨k, hk, _⟩ => absurd hk (Nat.not_lt_zero _)⟩
  | succ a ih =>
    intro h
    have h1 := ih (fun k hk => h k (by omega))
    have h2 := sm_le a (fun k hk => h k (show k < a + 1 by omega))
    have h3 := h a (by omega)
    show sm g a + g a < sm f a + f a ↔ _
    constructor
    · intro hh
      by_cases e : g a < f a
      · exact ⟨a, by omega, e⟩
      · obtain ⟨k, hk, hg⟩ := h1.mp (by omega)
        exact ⟨k, by omega, hg⟩
    · rintro ⟨k, hk, hg⟩
      by_cases e : k = a
      · subst e
        omega
      · have := h1.mpr ⟨k, by omega, hg⟩
        omega
theorem sm_two {f : Nat → Nat} (hf : ∀ k, f k ≤ 1) : ∀ a, (2 ≤ sm f a ↔ ∃ i j, i < j ∧ j < a ∧ f i = 1 ∧ f j = 1) := by
  intro a
  induction a with
  | zero => exact ⟨fun h => absurd h (show ¬ 2 ≤ 0 by decide), fun ⟨i, j, _, hj, _⟩ => absurd hj (Nat.not_lt_zero _)⟩
  | succ a ih =>
    have h0 := hf a
    show 2 ≤ sm f a + f a ↔ _
    constructor
    · intro h
      by_cases e : 2 ≤ sm f a
      · obtain ⟨i, j, h1, h2, h3⟩ := ih.mp e
        exact ⟨i, j, h1, by omega, h3⟩
      · obtain ⟨i, hi, hp⟩ := sm_pos a (show 0 < sm f a by omega)
        have := hf i
        exact ⟨i, a, hi, by omega, by omega, by omega⟩
    · rintro ⟨i, j, h1, h2, h3, h4⟩
      by_cases e : j = a
      · subst e
        have := sm_mem (f := f) j i h1
        omega
      · have := ih.mpr ⟨i, j, h1, by omega, h3, h4⟩
        omega
/-! bits gathered -/
def hasB (f : Nat → Bool) : Nat → Bool
  | 0 => false
  | j + 1 => hasB f j || f j
theorem hasB_iff {f : Nat → Bool} : ∀ a, (hasB f a = true ↔ ∃ i, i < a ∧ f i = true) := by
  intro a
  induction a with
  | zero => exact ⟨fun h => (nomatch h), fun ⟨i, hi, _⟩ => absurd hi (Nat.not_lt_zero _)⟩
  | succ a ih =>
    show (hasB f a || f a) = true ↔ _
    rw [Bool.or_eq_true, ih]
    constructor
    · rintro (⟨i, hi, h⟩ | h)
      · exact ⟨i, by omega, h⟩
      · exact ⟨a, by omega, h⟩
    · rintro ⟨i, hi, h⟩
      by_cases e : i = a
      · subst e
        exact Or.inr h
      · exact Or.inl ⟨i, by omega, h⟩
def orB (q : Nat → Bool) (f : Nat → Nat) : Nat → Nat
  | 0 => 0
  | i + 1 => if q i = true then orB q f i ||| 2 ^ f i else orB q f i
theorem orB_bit {q : Nat → Bool} {f : Nat → Nat} {p : Nat} : ∀ a, ((orB q f a).testBit p = true ↔ ∃ i, i < a ∧ q i = true ∧ f i = p) := by
  intro a
  induction a with
  | zero => exact ⟨fun h => absurd h (by rw [show orB q f 0 = 0 from rfl, Nat.zero_testBit]; decide), fun ⟨i, hi, _⟩ => absurd hi (Nat.not_lt_zero _)⟩
  | succ a ih =>
    by_cases h : q a = true
    · rw [show orB q f (a + 1) = orB q f a ||| 2 ^ f a from if_pos h, tb_or, ih]
      constructor
      · rintro (⟨i, hi, h2⟩ | h2)
        · exact ⟨i, by omega, h2⟩
        · exact ⟨a, by omega, h, h2.symm⟩
      · rintro ⟨i, hi, h2, h3⟩
        by_cases e : i = a
        · subst e
          exact Or.inr h3.symm
        · exact Or.inl ⟨i, by omega, h2, h3⟩
    · rw [show orB q f (a + 1) = orB q f a from if_neg h, ih]
      constructor
      · rintro ⟨i, hi, h2⟩
        exact ⟨i, by omega, h2⟩
      · rintro ⟨i, hi, h2, h3⟩
        by_cases e : i = a
        · subst e
          exact absurd h2 h
        · exact ⟨i, by omega, h2, h3⟩
theorem orB_lt {q : Nat → Bool} {f : Nat → Nat} {B : Nat} : ∀ a, (∀ i, i < a → f i < B) → orB q f a < 2 ^ B := by
  intro a
  induction a with
  | zero => exact fun _ => Nat.two_pow_pos _
  | succ a ih =>
    intro h
    have h1 := ih (fun i hi => h i (by omega))
    by_cases hq : q a = true
    · rw [show orB q f (a + 1) = orB q f a ||| 2 ^ f a from if_pos hq]
      exact Nat.or_lt_two_pow h1 (Nat.pow_lt_pow_right (by decide) (h a (by omega)))
    · rw [show orB q f (a + 1) = orB q f a from if_neg hq]
      exact h1
/-- a round in which somebody, or some spade, is told of in two pairs -/
def frI (R D S : Nat → Nat) (r i j : Nat) : Bool := decide (R i = r) && decide (R j = r) && (decide (D i = D j) != decide (S i = S j))
def frB (R D S : Nat → Nat) (a r : Nat) : Bool := hasB (fun i => hasB (fun j => frI R D S r i j) i) a
theorem frI_iff {R D S : Nat → Nat} {r i j : Nat} : frI R D S r i j = true ↔ R i = r ∧ R j = r ∧ ¬ (D i = D j ↔ S i = S j) := by
  unfold frI
  by_cases h1 : D i = D j <;> by_cases h2 : S i = S j <;> simp [h1, h2]
theorem frB_iff {R D S : Nat → Nat} {a r : Nat} : frB R D S a r = true ↔ ∃ i j, i < a ∧ j < a ∧ R i = r ∧ R j = r ∧ ¬ (D i = D j ↔ S i = S j) := by
  unfold frB
  rw [hasB_iff]
  constructor
  · rintro ⟨i, hi, h⟩
    obtain ⟨j, hj, h2⟩ := (hasB_iff i).mp h
    obtain ⟨h3, h4, h5⟩ := frI_iff.mp h2
    exact ⟨i, j, hi, by omega, h3, h4, h5⟩
  · rintro ⟨i, j, hi, hj, h1, h2, h3⟩
    have hne : i ≠ j := fun e => h3 (by rw [e]; exact ⟨fun _ => rfl, fun _ => rfl⟩)
    by_cases hlt : j < i
    · exact ⟨i, hi, (hasB_iff i).mpr ⟨j, hlt, frI_iff.mpr ⟨h1, h2, h3⟩⟩⟩
    · refine ⟨j, hj, (hasB_iff j).mpr ⟨i, by omega, frI_iff.mpr ⟨h2, h1, fun hh => h3 ⟨fun e => (hh.mp e.symm).symm, fun e => (hh.mpr e.symm).symm⟩⟩⟩⟩
def inR (R : Nat → Nat) (r i : Nat) : Bool := decide (R i = r)
theorem cheat_rows {R D S : Nat → Nat} {a r : Nat} (hD : ∀ i, i < a → D i < 6) (hS : ∀ i, i < a → S i < 8) :
    (pop (orB (inR R r) D a) 8 < pop (orB (inR R r) (fun i => D i * 8 + S i) a) 48 ∨ pop (orB (inR R r) S a) 8 < pop (orB (inR R r) (fun i => D i * 8 + S i) a) 48) ↔ frB R D S a r = true := by
  have hbit : ∀ d s, s < 8 → ((orB (inR R r) (fun i => D i * 8 + S i) a).testBit (8 * d + s) = true ↔ ∃ i, i < a ∧ R i = r ∧ D i = d ∧ S i = s) := by
    intro d s hs
    rw [orB_bit]
    constructor
    · rintro ⟨i, hi, h1, h2⟩
      have h3 := hS i hi
      have h4 : D i * 8 + S i = 8 * d + s := h2
      exact ⟨i, hi, of_decide_eq_true h1, by omega, by omega⟩
    · rintro ⟨i, hi, h1, h2, h3⟩
      refine ⟨i, hi, decide_eq_true h1, ?_⟩
      show D i * 8 + S i = 8 * d + s
      omega
  have hDb : ∀ d, ((orB (inR R r) D a).testBit d = true ↔ ∃ i, i < a ∧ R i = r ∧ D i = d) := by
    intro d
    rw [orB_bit]
    exact ⟨fun ⟨i, hi, h1, h2⟩ => ⟨i, hi, of_decide_eq_true h1, h2⟩, fun ⟨i, hi, h1, h2⟩ => ⟨i, hi, decide_eq_true h1, h2⟩⟩
  have hSb : ∀ d, ((orB (inR R r) S a).testBit d = true ↔ ∃ i, i < a ∧ R i = r ∧ S i = d) := by
    intro d
    rw [orB_bit]
    exact ⟨fun ⟨i, hi, h1, h2⟩ => ⟨i, hi, of_decide_eq_true h1, h2⟩, fun ⟨i, hi, h1, h2⟩ => ⟨i, hi, decide_eq_true h1, h2⟩⟩
  generalize orB (inR R r) (fun i => D i * 8 + S i) a = P at hbit ⊢
  generalize orB (inR R r) D a = A at hDb ⊢
  generalize orB (inR R r) S a = B at hSb ⊢
  have b1 : ∀ p, (if P.testBit p = true then 1 else 0) ≤ 1 := fun p => by split <;> decide
  have eP : pop P 48 = sm (fun d => sm (fun s => if P.testBit (8 * d + s) = true then 1 else 0) 8) 6 := (pop_sm P 48).trans (sm_mul _ 8 6)
  have eP2 : pop P 48 = sm (fun s => sm (fun d => if P.testBit (8 * d + s) = true then 1 else 0) 6) 8 := eP.trans (sm_swap _ 8 6)
  have eA : pop A 8 = sm (fun d => if A.testBit d = true then 1 else 0) 6 := by
    rw [pop_sm]
    have h6 : A.testBit 6 ≠ true := fun h => by
      obtain ⟨i, hi, -, h2⟩ := (hDb 6).mp h
      have := hD i hi
      omega
    have h7 : A.testBit 7 ≠ true := fun h => by
      obtain ⟨i, hi, -, h2⟩ := (hDb 7).mp h
      have := hD i hi
      omega
    show sm (fun d => if A.testBit d = true then 1 else 0) 6 + (if A.testBit 6 = true then 1 else 0) + (if A.testBit 7 = true then 1 else 0) = _
    rw [if_neg h6, if_neg h7]
    rfl
  have rowd : ∀ d, d < 6 → (if A.testBit d = true then 1 else 0) ≤ sm (fun s => if P.testBit (8 * d + s) = true then 1 else 0) 8 := by
    intro d hd
    split
    · rename_i h
      obtain ⟨i, hi, h1, h2⟩ := (hDb d).mp h
      have := sm_mem (f := fun s => if P.testBit (8 * d + s) = true then 1 else 0) 8 (S i) (hS i hi)
      simp only [if_pos ((hbit d (S i) (hS i hi)).mpr ⟨i, hi, h1, h2, rfl⟩)] at this
      exact this
    · exact Nat.zero_le _
  have rows : ∀ s, s < 8 → (if B.testBit s = true then 1 else 0) ≤ sm (fun d => if P.testBit (8 * d + s) = true then 1 else 0) 6 := by
    intro s hs
    split
    · rename_i h
      obtain ⟨i, hi, h1, h2⟩ := (hSb s).mp h
      have := sm_mem (f := fun d => if P.testBit (8 * d + s) = true then 1 else 0) 6 (D i) (hD i hi)
      simp only [if_pos ((hbit (D i) s hs).mpr ⟨i, hi, h1, rfl, h2⟩)] at this
      exact this
    · exact Nat.zero_le _
  have k1 : pop A 8 < pop P 48 ↔ ∃ i j, i < a ∧ j < a ∧ R i = r ∧ R j = r ∧ D i = D j ∧ S i ≠ S j := by
    rw [eA, eP, sm_lt 6 rowd]
    constructor
    · rintro ⟨d, hd, h⟩
      have h2 : 2 ≤ sm (fun s => if P.testBit (8 * d + s) = true then 1 else 0) 8 := by
        by_cases hA : A.testBit d = true
        · rw [if_pos hA] at h
          exact h
        · obtain ⟨s, hs, h3⟩ := sm_pos 8 (Nat.lt_of_le_of_lt (Nat.zero_le _) h)
          by_cases hp : P.testBit (8 * d + s) = true
          · obtain ⟨i, hi, h4, h5, -⟩ := (hbit d s hs).mp hp
            exact absurd ((hDb d).mpr ⟨i, hi, h4, h5⟩) hA
          · rw [if_neg hp] at h3
            exact absurd h3 (Nat.lt_irrefl _)
      obtain ⟨s, s', h3, h4, h5, h6⟩ := (sm_two (fun k => b1 _) 8).mp h2
      have g1 : P.testBit (8 * d + s) = true := by
        by_cases hp : P.testBit (8 * d + s) = true
        · exact hp
        · rw [if_neg hp] at h5
          exact absurd h5 (by decide)
      have g2 : P.testBit (8 * d + s') = true := by
        by_cases hp : P.testBit (8 * d + s') = true
        · exact hp
        · rw [if_neg hp] at h6
          exact absurd h6 (by decide)
      obtain ⟨i, hi, i1, i2, i3⟩ := (hbit d s (by omega)).mp g1
      obtain ⟨j, hj, j1, j2, j3⟩ := (hbit d s' h4).mp g2
      exact ⟨i, j, hi, hj, i1, j1, i2.trans j2.symm, by omega⟩
    · rintro ⟨i, j, hi, hj, h1, h2, h3, h4⟩
      refine ⟨D i, hD i hi, ?_⟩
      rw [if_pos ((hDb (D i)).mpr ⟨i, hi, h1, rfl⟩)]
      have gi := (hbit (D i) (S i) (hS i hi)).mpr ⟨i, hi, h1, rfl, rfl⟩
      have gj := (hbit (D i) (S j) (hS j hj)).mpr ⟨j, hj, h2, h3.symm, rfl⟩
      refine (sm_two (f := fun s => if P.testBit (8 * D i + s) = true then 1 else 0) (fun k => b1 _) 8).mpr ?_
      by_cases hlt : S i < S j
      · exact ⟨S i, S j, hlt, hS j hj, if_pos gi, if_pos gj⟩
      · exact ⟨S j, S i, by omega, hS i hi, if_pos gj, if_pos gi⟩
  have eB : pop B 8 = sm (fun d => if B.testBit d = true then 1 else 0) 8 := pop_sm B 8
  have k2 : pop B 8 < pop P 48 ↔ ∃ i j, i < a ∧ j < a ∧ R i = r ∧ R j = r ∧ S i = S j ∧ D i ≠ D j := by
    rw [eB, eP2, sm_lt 8 rows]
    constructor
    · rintro ⟨s, hs, h⟩
      have h2 : 2 ≤ sm (fun d => if P.testBit (8 * d + s) = true then 1 else 0) 6 := by
        by_cases hA : B.testBit s = true
        · rw [if_pos hA] at h
          exact h
        · obtain ⟨d, hd, h3⟩ := sm_pos 6 (Nat.lt_of_le_of_lt (Nat.zero_le _) h)
          by_cases hp : P.testBit (8 * d + s) = true
          · obtain ⟨i, hi, h4, -, h5⟩ := (hbit d s hs).mp hp
            exact absurd ((hSb s).mpr ⟨i, hi, h4, h5⟩) hA
          · rw [if_neg hp] at h3
            exact absurd h3 (Nat.lt_irrefl _)
      obtain ⟨d, d', h3, h4, h5, h6⟩ := (sm_two (f := fun d => if P.testBit (8 * d + s) = true then 1 else 0) (fun k => b1 _) 6).mp h2
      have g1 : P.testBit (8 * d + s) = true := by
        by_cases hp : P.testBit (8 * d + s) = true
        · exact hp
        · rw [if_neg hp] at h5
          exact absurd h5 (by decide)
      have g2 : P.testBit (8 * d' + s) = true := by
        by_cases hp : P.testBit (8 * d' + s) = true
        · exact hp
        · rw [if_neg hp] at h6
          exact absurd h6 (by decide)
      obtain ⟨i, hi, i1, i2, i3⟩ := (hbit d s hs).mp g1
      obtain ⟨j, hj, j1, j2, j3⟩ := (hbit d' s hs).mp g2
      exact ⟨i, j, hi, hj, i1, j1, i3.trans j3.symm, by omega⟩
    · rintro ⟨i, j, hi, hj, h1, h2, h3, h4⟩
      refine ⟨S i, hS i hi, ?_⟩
      rw [if_pos ((hSb (S i)).mpr ⟨i, hi, h1, rfl⟩)]
      have gi := (hbit (D i) (S i) (hS i hi)).mpr ⟨i, hi, h1, rfl, rfl⟩
      have gj := (hbit (D j) (S i) (hS i hi)).mpr ⟨j, hj, h2, rfl, h3.symm⟩
      refine (sm_two (f := fun d => if P.testBit (8 * d + S i) = true then 1 else 0) (fun k => b1 _) 6).mpr ?_
      by_cases hlt : D i < D j
      · exact ⟨D i, D j, hlt, hD j hj, if_pos gi, if_pos gj⟩
      · exact ⟨D j, D i, by omega, hD i hi, if_pos gj, if_pos gi⟩
  rw [k1, k2, frB_iff]
  constructor
  · rintro (⟨i, j, hi, hj, h1, h2, h3, h4⟩ | ⟨i, j, hi, hj, h1, h2, h3, h4⟩)
    · exact ⟨i, j, hi, hj, h1, h2, fun hh => h4 (hh.mp h3)⟩
    · exact ⟨i, j, hi, hj, h1, h2, fun hh => h4 (hh.mpr h3)⟩
  · rintro ⟨i, j, hi, hj, h1, h2, h3⟩
    by_cases hd : D i = D j
    · exact Or.inl ⟨i, j, hi, hj, h1, h2, hd, fun e => h3 ⟨fun _ => e, fun _ => hd⟩⟩
    · by_cases hs : S i = S j
      · exact Or.inr ⟨i, j, hi, hj, h1, h2, hs, hd⟩
      · exact absurd ⟨fun e => absurd e hd, fun e => absurd e hs⟩ h3
