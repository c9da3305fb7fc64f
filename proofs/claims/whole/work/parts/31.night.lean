/-! NIGHTS: filling first what ends first does as the windows say -/
def sm (f : Nat → Nat) : Nat → Nat
  | 0 => 0
  | k + 1 => sm f k + f k
theorem sm_le {f g : Nat → Nat} : ∀ a, (∀ k, k < a → f k ≤ g k) → sm f a ≤ sm g a := by
  intro a
  induction a with
  | zero => exact fun _ => Nat.le_refl _
  | succ a ih =>
    intro h
    have h1 := ih (fun k hk => h k (by omega))
    have h2 := h a (by omega)
    show sm f a + f a ≤ sm g a + g a
    omega
theorem sm_congr {f g : Nat → Nat} (a : Nat) (h : ∀ k, k < a → f k = g k) : sm f a = sm g a :=
  Nat.le_antisymm (sm_le a (fun k hk => Nat.le_of_eq (h k hk))) (sm_le a (fun k hk => Nat.le_of_eq (h k hk).symm))
theorem sm_add {f g : Nat → Nat} : ∀ a, sm (fun k => f k + g k) a = sm f a + sm g a := by
  intro a
  induction a with
  | zero => rfl
  | succ a ih =>
    show sm (fun k => f k + g k) a + (f a + g a) = sm f a + f a + (sm g a + g a)
    omega
theorem sm_zero {f : Nat → Nat} : ∀ a, (∀ k, k < a → f k = 0) → sm f a = 0 := by
  intro a
  induction a with
  | zero => exact fun _ => rfl
  | succ a ih =>
    intro h
    show sm f a + f a = 0
    rw [ih (fun k hk => h k (by omega)), h a (by omega)]
theorem sm_mem {f : Nat → Nat} : ∀ a k, k < a → f k ≤ sm f a := by
  intro a
  induction a with
  | zero => exact fun k hk => absurd hk (Nat.not_lt_zero _)
  | succ a ih =>
    intro k hk
    show f k ≤ sm f a + f a
    by_cases e : k = a
    · subst e
      omega
    · have := ih k (by omega)
      omega
theorem sm_pos {f : Nat → Nat} : ∀ a, 0 < sm f a → ∃ k, k < a ∧ 0 < f k := by
  intro a
  induction a with
  | zero => exact fun h => absurd h (Nat.lt_irrefl _)
  | succ a ih =>
    intro h
    by_cases e : 0 < f a
    · exact ⟨a, by omega, e⟩
    · obtain ⟨k, hk, h2⟩ := ih (by
        have h3 : 0 < sm f a + f a := h
        omega)
      exact ⟨k, by omega, h2⟩
/-- what the holes that begin at s or later and end by e want -/
def wd (T C U : Nat → Nat) (a s e : Nat) : Nat := sm (fun k => if s ≤ T k ∧ U k ≤ e then C k else 0) a
def nd (T C U : Nat → Nat) (a s e : Nat) : Nat := if wd T C U a s e = 0 then 0 else if e ≤ s then 1000000 else (wd T C U a s e + (e - s) - 1) / (e - s)
def lcj (T C U : Nat → Nat) (a acc i : Nat) : Nat → Nat
  | 0 => acc
  | j + 1 => max (lcj T C U a acc i j) (nd T C U a (T i) (U j))
def lci (T C U : Nat → Nat) (a : Nat) : Nat → Nat
  | 0 => 1
  | i + 1 => lcj T C U a (lci T C U a i) i a
theorem lcj_le {T C U : Nat → Nat} {a acc i m : Nat} : ∀ j, (lcj T C U a acc i j ≤ m ↔ acc ≤ m ∧ ∀ j', j' < j → nd T C U a (T i) (U j') ≤ m) := by
  intro j
  induction j with
  | zero => exact ⟨fun h => ⟨h, fun j' hj => absurd hj (Nat.not_lt_zero _)⟩, fun h => h.1⟩
  | succ j ih =>
    show max (lcj T C U a acc i j) (nd T C U a (T i) (U j)) ≤ m ↔ _
    constructor
    · intro h
      have h1 := ih.mp (by omega)
      refine ⟨h1.1, fun j' hj => ?_⟩
      by_cases e : j' = j
      · subst e
        omega
      · exact h1.2 j' (by omega)
    · intro h
      have h1 := ih.mpr ⟨h.1, fun j' hj => h.2 j' (by omega)⟩
      have h2 := h.2 j (by omega)
      omega
theorem lci_le {T C U : Nat → Nat} {a m : Nat} : ∀ i, (lci T C U a i ≤ m ↔ 1 ≤ m ∧ ∀ i' j', i' < i → j' < a → nd T C U a (T i') (U j') ≤ m) := by
  intro i
  induction i with
  | zero => exact ⟨fun h => ⟨h, fun i' j' hi => absurd hi (Nat.not_lt_zero _)⟩, fun h => h.1⟩
  | succ i ih =>
    show lcj T C U a (lci T C U a i) i a ≤ m ↔ _
    rw [lcj_le, ih]
    constructor
    · rintro ⟨⟨h1, h2⟩, h3⟩
      refine ⟨h1, fun i' j' hi hj => ?_⟩
      by_cases e : i' = i
      · subst e
        exact h3 j' hj
      · exact h2 i' j' (by omega) hj
    · rintro ⟨h1, h2⟩
      exact ⟨⟨h1, fun i' j' hi hj => h2 i' j' (by omega) hj⟩, fun j' hj => h2 i j' (by omega) hj⟩
theorem nd_le {T C U : Nat → Nat} {a s e q : Nat} (hq : q < 1000000) : nd T C U a s e ≤ q ↔ wd T C U a s e ≤ q * (e - s) := by
  unfold nd
  generalize wd T C U a s e = w
  by_cases h0 : w = 0
  · rw [if_pos h0, h0]
    exact ⟨fun _ => Nat.zero_le _, fun _ => Nat.zero_le _⟩
  · rw [if_neg h0]
    by_cases h1 : e ≤ s
    · rw [if_pos h1, show e - s = 0 by omega, Nat.mul_zero]
      constructor <;> intro h <;> omega
    · rw [if_neg h1]
      have hb : 0 < e - s := by omega
      generalize e - s = b at hb
      rw [← Nat.lt_succ_iff, Nat.div_lt_iff_lt_mul hb, Nat.succ_eq_add_one, Nat.add_mul, Nat.one_mul]
      omega
theorem exMin {p : Nat → Prop} {f : Nat → Nat} : ∀ a, (∃ i, i < a ∧ p i) → ∃ i, i < a ∧ p i ∧ ∀ k, k < a → p k → f i ≤ f k := by
  intro a
  induction a with
  | zero => rintro ⟨i, hi, -⟩; exact absurd hi (Nat.not_lt_zero _)
  | succ a ih =>
    rintro ⟨i, hi, hp⟩
    by_cases h : ∃ i, i < a ∧ p i
    · obtain ⟨j, hj, hpj, hm⟩ := ih h
      by_cases ha : p a ∧ f a < f j
      · refine ⟨a, by omega, ha.1, fun k hk hpk => ?_⟩
        by_cases e : k = a
        · subst e
          exact Nat.le_refl _
        · have := hm k (by omega) hpk
          omega
      · refine ⟨j, by omega, hpj, fun k hk hpk => ?_⟩
        by_cases e : k = a
        · subst e
          have : ¬ f k < f j := fun q => ha ⟨hpk, q⟩
          omega
        · exact hm k (by omega) hpk
    · have e : i = a := by
        by_cases e : i = a
        · exact e
        · exact absurd ⟨i, by omega, hp⟩ h
      subst e
      refine ⟨i, hi, hp, fun k hk hpk => ?_⟩
      by_cases e : k = i
      · subst e
        exact Nat.le_refl _
      · exact absurd ⟨k, by omega, hpk⟩ h
theorem exMax {p : Nat → Prop} {f : Nat → Nat} (a : Nat) {m : Nat} (hm : ∀ k, k < a → f k ≤ m) (h : ∃ i, i < a ∧ p i) : ∃ i, i < a ∧ p i ∧ ∀ k, k < a → p k → f k ≤ f i := by
  obtain ⟨i, hi, hp, hx⟩ := exMin (p := p) (f := fun k => m - f k) a h
  refine ⟨i, hi, hp, fun k hk hpk => ?_⟩
  have h1 : m - f i ≤ m - f k := hx k hk hpk
  have h2 := hm k hk
  have h3 := hm i hi
  omega
/-- all windows hold when those of the holes' own ends hold -/
theorem win_all {T C U : Nat → Nat} {a q : Nat} (hU : ∀ k, k < a → U k ≤ 200) : (∀ i j, i < a → j < a → wd T C U a (T i) (U j) ≤ q * (U j - T i)) ↔ ∀ s e, wd T C U a s e ≤ q * (e - s) := by
  refine ⟨fun h s e => ?_, fun h i j _ _ => h (T i) (U j)⟩
  by_cases h0 : ∃ k, k < a ∧ (s ≤ T k ∧ U k ≤ e)
  · obtain ⟨i, hi, hpi, hmin⟩ := exMin (p := fun k => s ≤ T k ∧ U k ≤ e) (f := T) a h0
    obtain ⟨j, hj, hpj, hmax⟩ := exMax (p := fun k => s ≤ T k ∧ U k ≤ e) (f := U) a hU h0
    have h1 : wd T C U a s e ≤ wd T C U a (T i) (U j) := by
      refine sm_le a (fun k hk => ?_)
      by_cases hk2 : s ≤ T k ∧ U k ≤ e
      · rw [if_pos hk2, if_pos ⟨hmin k hk hk2, hmax k hk hk2⟩]
        exact Nat.le_refl _
      · rw [if_neg hk2]
        exact Nat.zero_le _
    have h2 := h i j hi hj
    have h3 : q * (U j - T i) ≤ q * (e - s) := Nat.mul_le_mul_left q (by have := hpi.1; have := hpj.2; omega)
    omega
  · have h1 : wd T C U a s e = 0 := sm_zero a (fun k hk => if_neg (fun hh => h0 ⟨k, hk, hh⟩))
    rw [h1]
    exact Nat.zero_le _
/-- the windows from beat b on, of what is open then -/
def cnd (T U : Nat → Nat) (a q b : Nat) (o : Nat → Nat) : Prop := ∀ s e, b ≤ s → sm (fun k => if s ≤ max (T k) b ∧ U k ≤ e then o k else 0) a ≤ q * (e - s)
theorem cnd_0 {T C U : Nat → Nat} {a q : Nat} : cnd T U a q 0 C ↔ ∀ s e, wd T C U a s e ≤ q * (e - s) := by
  have e : ∀ s e, sm (fun k => if s ≤ max (T k) 0 ∧ U k ≤ e then C k else 0) a = wd T C U a s e := fun s e => sm_congr a (fun k _ => by rw [Nat.max_zero])
  exact ⟨fun h s e' => by rw [← e]; exact h s e' (Nat.zero_le _), fun h s e' _ => by rw [e]; exact h s e'⟩
theorem cnd_end {T U : Nat → Nat} {a q : Nat} {o : Nat → Nat} (hU : ∀ k, k < a → U k ≤ 200) : cnd T U a q 200 o ↔ ∀ k, k < a → o k = 0 := by
  constructor
  · intro h k hk
    have h1 := h 200 200 (Nat.le_refl _)
    rw [Nat.sub_self, Nat.mul_zero] at h1
    have h2 := sm_mem (f := fun k => if 200 ≤ max (T k) 200 ∧ U k ≤ 200 then o k else 0) a k hk
    simp only [if_pos (show 200 ≤ max (T k) 200 ∧ U k ≤ 200 from ⟨by omega, hU k hk⟩)] at h2
    omega
  · intro h s e hs
    rw [sm_zero a (fun k hk => by rw [h k hk]; exact ite_self _)]
    exact Nat.zero_le _
/-- what a beat's work may do: w of the q clods are left -/
def stepR (T U : Nat → Nat) (a q b : Nat) (o0 o : Nat → Nat) (w : Nat) : Prop := w ≤ q ∧ sm o a + (q - w) = sm o0 a ∧ (∀ k, k < a → o k ≤ o0 k) ∧ (∀ k, k < a → ¬ (T k ≤ b ∧ b < U k) → o k = o0 k) ∧ ∀ k, k < a → o k < o0 k → ∀ k', k' < a → T k' ≤ b ∧ b < U k' → U k' < U k → o k' = 0
theorem step_cnd {T U : Nat → Nat} {a q b : Nat} {o0 o : Nat → Nat} {w : Nat} (h : stepR T U a q b o0 o w) (hend : w = 0 ∨ ∀ k, k < a → T k ≤ b ∧ b < U k → o k = 0) : cnd T U a q b o0 ↔ cnd T U a q (b + 1) o := by
  obtain ⟨hw, hsum, hle, hsame, hedf⟩ := h
  constructor
  · intro hc s e hs
    by_cases hs2 : b + 2 ≤ s
    · refine Nat.le_trans (sm_le a (fun k hk => ?_)) (hc s e (by omega))
      by_cases hp : s ≤ max (T k) (b + 1) ∧ U k ≤ e
      · rw [if_pos hp, if_pos ⟨by omega, hp.2⟩]
        exact hle k hk
      · rw [if_neg hp]
        exact Nat.zero_le _
    · have es : s = b + 1 := by omega
      subst es
      by_cases hx : ∃ k, k < a ∧ (T k ≤ b ∧ b < U k) ∧ U k ≤ e ∧ 0 < o k
      · obtain ⟨k0, hk0, ha0, hu0, ho0⟩ := hx
        have hw0 : w = 0 := by
          rcases hend with h1 | h1
          · exact h1
          · exact absurd (h1 k0 hk0 ha0) (by omega)
        -- all that was given went to holes that end by e
        have hgiven : ∀ k, k < a → ¬ U k ≤ e → o k = o0 k := fun k hk hu => by
          have h1 := hle k hk
          by_cases h2 : o k < o0 k
          · have := hedf k hk h2 k0 hk0 ha0 (by omega)
            omega
          · omega
        have h1 := hc b e (Nat.le_refl _)
        have e1 : sm (fun k => if b ≤ max (T k) b ∧ U k ≤ e then o0 k else 0) a + sm (fun k => if U k ≤ e then 0 else o0 k) a = sm o0 a := by
          rw [← sm_add]
          refine sm_congr a (fun k hk => ?_)
          by_cases hu : U k ≤ e
          · rw [if_pos ⟨by omega, hu⟩, if_pos hu]; rfl
          · rw [if_neg (fun hh => hu hh.2), if_neg hu, Nat.zero_add]
        have e2 : sm (fun k => if b + 1 ≤ max (T k) (b + 1) ∧ U k ≤ e then o k else 0) a + sm (fun k => if U k ≤ e then 0 else o0 k) a = sm o a := by
          rw [← sm_add]
          refine sm_congr a (fun k hk => ?_)
          by_cases hu : U k ≤ e
          · rw [if_pos ⟨by omega, hu⟩, if_pos hu]; rfl
          · rw [if_neg (fun hh => hu hh.2), if_neg hu, Nat.zero_add, hgiven k hk hu]
        have e3 : q * (e - b) = q * (e - (b + 1)) + q := by
          rw [show e - b = e - (b + 1) + 1 by omega, Nat.mul_add, Nat.mul_one]
        omega
      · -- all that could be filled is filled
        have h1 := hc (b + 1) e (by omega)
        have h2 := hc b b (Nat.le_refl _)
        rw [Nat.sub_self, Nat.mul_zero] at h2
        refine Nat.le_trans (sm_le a (fun k hk => ?_)) h1
        by_cases hp : b + 1 ≤ max (T k) (b + 1) ∧ U k ≤ e
        · rw [if_pos hp]
          by_cases ht : b + 1 ≤ T k
          · rw [if_pos ⟨by omega, hp.2⟩]
            exact hle k hk
          · by_cases hu : b < U k
            · have : ¬ 0 < o k := fun h0 => hx ⟨k, hk, ⟨by omega, hu⟩, hp.2, h0⟩
              omega
            · have h3 := sm_mem (f := fun k => if b ≤ max (T k) b ∧ U k ≤ b then o0 k else 0) a k hk
              simp only [if_pos (show b ≤ max (T k) b ∧ U k ≤ b from ⟨by omega, by omega⟩)] at h3
              have h4 := hle k hk
              omega
        · rw [if_neg hp]
          exact Nat.zero_le _
  · intro hc s e hs
    by_cases hs2 : b + 1 ≤ s
    · refine Nat.le_trans (sm_le a (fun k hk => ?_)) (hc s e hs2)
      by_cases hp : s ≤ max (T k) b ∧ U k ≤ e
      · rw [if_pos hp, if_pos ⟨by omega, hp.2⟩, hsame k hk (by omega)]
        exact Nat.le_refl _
      · rw [if_neg hp]
        exact Nat.zero_le _
    · have es : s = b := by omega
      subst es
      have h1 := hc (s + 1) e (Nat.le_refl _)
      by_cases he : e ≤ s
      · refine Nat.le_trans (sm_le a (fun k hk => ?_)) (Nat.le_trans h1 (by rw [show e - (s + 1) = 0 by omega, Nat.mul_zero]; exact Nat.zero_le _))
        by_cases hp : s ≤ max (T k) s ∧ U k ≤ e
        · rw [if_pos hp, if_pos ⟨by omega, hp.2⟩, hsame k hk (by omega)]
          exact Nat.le_refl _
        · rw [if_neg hp]
          exact Nat.zero_le _
      · have e1 : sm (fun k => if s ≤ max (T k) s ∧ U k ≤ e then o0 k else 0) a + sm (fun k => if U k ≤ e then 0 else o0 k) a = sm o0 a := by
          rw [← sm_add]
          refine sm_congr a (fun k hk => ?_)
          by_cases hu : U k ≤ e
          · rw [if_pos ⟨by omega, hu⟩, if_pos hu]; rfl
          · rw [if_neg (fun hh => hu hh.2), if_neg hu, Nat.zero_add]
        have e2 : sm (fun k => if s + 1 ≤ max (T k) (s + 1) ∧ U k ≤ e then o k else 0) a + sm (fun k => if U k ≤ e then 0 else o k) a = sm o a := by
          rw [← sm_add]
          refine sm_congr a (fun k hk => ?_)
          by_cases hu : U k ≤ e
          · rw [if_pos ⟨by omega, hu⟩, if_pos hu]; rfl
          · rw [if_neg (fun hh => hu hh.2), if_neg hu, Nat.zero_add]
        have e4 : sm (fun k => if U k ≤ e then 0 else o k) a ≤ sm (fun k => if U k ≤ e then 0 else o0 k) a := sm_le a (fun k hk => by
          by_cases hu : U k ≤ e
          · rw [if_pos hu, if_pos hu]
            exact Nat.le_refl _
          · rw [if_neg hu, if_neg hu]
            exact hle k hk)
        have e3 : q * (e - s) = q * (e - (s + 1)) + q := by
          rw [show e - s = e - (s + 1) + 1 by omega, Nat.mul_add, Nat.mul_one]
        omega
/-- the two sides' words for it -/
theorem night_iff {T C U : Nat → Nat} {a q : Nat} (hU : ∀ k, k < a → U k ≤ 200) (h1 : 1 ≤ q) (hq : q < 1000000) : cnd T U a q 0 C ↔ lci T C U a a ≤ q := by
  rw [cnd_0, ← win_all hU, lci_le]
  constructor
  · exact fun h => ⟨h1, fun i j hi hj => (nd_le hq).mpr (h i j hi hj)⟩
  · exact fun h i j hi hj => (nd_le hq).mp (h.2 i j hi hj)
