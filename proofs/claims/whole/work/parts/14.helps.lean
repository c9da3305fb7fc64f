/-! small helps of both classes -/
def pI (p : Prop) [Decidable p] : Int32 := if p then 1 else 0
theorem pI_t {p : Prop} [Decidable p] (h : p) : pI p = 1 := if_pos h
theorem pI_f {p : Prop} [Decidable p] (h : ¬ p) : pI p = 0 := if_neg h
theorem pI_01 (p : Prop) [Decidable p] : pI p = 0 ∨ pI p = 1 := by
  by_cases h : p
  · exact Or.inr (pI_t h)
  · exact Or.inl (pI_f h)
theorem pI_ne {p : Prop} [Decidable p] : ¬ pI p = 0 ↔ p := by
  by_cases h : p
  · rw [pI_t h]
    exact ⟨fun _ => h, fun _ => by decide⟩
  · rw [pI_f h]
    exact ⟨fun n => absurd rfl n, fun q => absurd q h⟩
theorem pI_eq0 {p : Prop} [Decidable p] : pI p = 0 ↔ ¬ p := by
  by_cases h : p
  · rw [pI_t h]
    exact ⟨fun n => absurd n (by decide), fun n => absurd h n⟩
  · rw [pI_f h]
    exact ⟨fun _ => h, fun _ => rfl⟩
theorem pI_cong {p q : Prop} [Decidable p] [Decidable q] (h : p ↔ q) : pI p = pI q := by
  by_cases hp : p
  · rw [pI_t hp, pI_t (h.mp hp)]
  · rw [pI_f hp, pI_f (fun n => hp (h.mpr n))]
theorem pI_nar (p : Prop) [Decidable p] : narrow .boolean (.int (pI p)) = .int (pI p) := by
  rcases pI_01 p with h | h <;> rw [h] <;> rfl
set_option maxRecDepth 20000 in
/-- within(n, a, b) -/
theorem c_within (d : Nat) (n a b : Int32) (st : mSt) : mMC mT (d + 1) 121 [.int n, .int a, .int b] st (some (.int (pI (a ≤ n ∧ n ≤ b)))) st := by
  refine mI_X9_within (d := d + 0) (Nat.le_of_ble_eq_true rfl) (fun Q hq => ?_)
  show mW (mMC mT (d + 0)) (0, fun _ => 0) (mAtL P_X9_within) (some .boolean) Q 0 [some (.int n), some (.int a), some (.int b)] [] st
  refine w_blk 2 (pc' := 2) (ls' := [some (.int n), some (.int a), some (.int b)]) (sk' := [.int a, .int n]) (st' := st) (fun _ h => h) ?_
  refine w_cmp_lt rfl (fun h1 => ?_) (fun h1 => ?_)
  · refine w_blk 1 (pc' := 15) (ls' := [some (.int n), some (.int a), some (.int b)]) (sk' := [.int 0]) (st' := st) (fun _ h => h) ?_
    rw [pI_f (by simp only [Int32.le_iff_toInt_le, Int32.lt_iff_toInt_lt] at *; omega)] at hq
    exact w_iret rfl rfl rfl hq
  · refine w_blk 2 (pc' := 7) (ls' := [some (.int n), some (.int a), some (.int b)]) (sk' := [.int b, .int n]) (st' := st) (fun _ h => h) ?_
    refine w_cmp_gt rfl (fun h2 => ?_) (fun h2 => ?_)
    · refine w_blk 1 (pc' := 15) (ls' := [some (.int n), some (.int a), some (.int b)]) (sk' := [.int 0]) (st' := st) (fun _ h => h) ?_
      rw [pI_f (by simp only [Int32.le_iff_toInt_le, Int32.lt_iff_toInt_lt] at *; omega)] at hq
      exact w_iret rfl rfl rfl hq
    · refine w_blk 2 (pc' := 15) (ls' := [some (.int n), some (.int a), some (.int b)]) (sk' := [.int 1]) (st' := st) (fun _ h => h) ?_
      rw [pI_t (by simp only [Int32.le_iff_toInt_le, Int32.lt_iff_toInt_lt] at *; omega)] at hq
      exact w_iret rfl rfl rfl hq
set_option maxRecDepth 20000 in
/-- in(n, a, b) -/
theorem m_in (d : Nat) (n a b : Int32) (st : mSt) : mMC mT (d + 1) 130 [.int n, .int a, .int b] st (some (.int (pI (a ≤ n ∧ n ≤ b)))) st := by
  refine mI_X10_in (d := d + 0) (Nat.le_of_ble_eq_true rfl) (fun Q hq => ?_)
  show mW (mMC mT (d + 0)) (0, fun _ => 0) (mAtL P_X10_in) (some .boolean) Q 0 [some (.int n), some (.int a), some (.int b)] [] st
  refine w_blk 2 (pc' := 2) (ls' := [some (.int n), some (.int a), some (.int b)]) (sk' := [.int a, .int n]) (st' := st) (fun _ h => h) ?_
  refine w_cmp_lt rfl (fun h1 => ?_) (fun h1 => ?_)
  · refine w_blk 1 (pc' := 15) (ls' := [some (.int n), some (.int a), some (.int b)]) (sk' := [.int 0]) (st' := st) (fun _ h => h) ?_
    rw [pI_f (by simp only [Int32.le_iff_toInt_le, Int32.lt_iff_toInt_lt] at *; omega)] at hq
    exact w_iret rfl rfl rfl hq
  · refine w_blk 2 (pc' := 7) (ls' := [some (.int n), some (.int a), some (.int b)]) (sk' := [.int b, .int n]) (st' := st) (fun _ h => h) ?_
    refine w_cmp_gt rfl (fun h2 => ?_) (fun h2 => ?_)
    · refine w_blk 1 (pc' := 15) (ls' := [some (.int n), some (.int a), some (.int b)]) (sk' := [.int 0]) (st' := st) (fun _ h => h) ?_
      rw [pI_f (by simp only [Int32.le_iff_toInt_le, Int32.lt_iff_toInt_lt] at *; omega)] at hq
      exact w_iret rfl rfl rfl hq
    · refine w_blk 2 (pc' := 15) (ls' := [some (.int n), some (.int a), some (.int b)]) (sk' := [.int 1]) (st' := st) (fun _ h => h) ?_
      rw [pI_t (by simp only [Int32.le_iff_toInt_le, Int32.lt_iff_toInt_lt] at *; omega)] at hq
      exact w_iret rfl rfl rfl hq
set_option maxRecDepth 20000 in
/-- asNumber(x) -/
theorem c_asNumber (d : Nat) (x : Int32) (st : mSt) : mMC mT (d + 1) 123 [.int x] st (some (.int (if x = 0 then 0 else 1))) st := by
  refine mI_X9_asNumber (d := d + 0) (Nat.le_of_ble_eq_true rfl) (fun Q hq => ?_)
  show mW (mMC mT (d + 0)) (0, fun _ => 0) (mAtL P_X9_asNumber) (some .int) Q 0 [some (.int x)] [] st
  refine w_blk 1 (pc' := 1) (ls' := [some (.int x)]) (sk' := [.int x]) (st' := st) (fun _ h => h) ?_
  refine w_if_eq rfl (fun h1 => ?_) (fun h1 => ?_)
  · refine w_blk 1 (pc' := 9) (ls' := [some (.int x)]) (sk' := [.int 0]) (st' := st) (fun _ h => h) ?_
    simp only [h1, if_true, if_false] at hq
    exact w_iret rfl rfl rfl hq
  · refine w_blk 2 (pc' := 9) (ls' := [some (.int x)]) (sk' := [.int 1]) (st' := st) (fun _ h => h) ?_
    simp only [h1, if_true, if_false] at hq
    exact w_iret rfl rfl rfl hq
set_option maxRecDepth 20000 in
/-- max -/
theorem c_max (d : Nat) (x y : Int32) (st : mSt) : mMC mT (d + 1) 3 [.int x, .int y] st (some (.int (if x < y then y else x))) st := by
  refine mI_J9_max_7cf53 (d := d + 0) (Nat.le_of_ble_eq_true rfl) (fun Q hq => ?_)
  show mW (mMC mT (d + 0)) (0, fun _ => 0) (mAtL P_J9_max_7cf53) (some .int) Q 0 [some (.int x), some (.int y)] [] st
  refine w_blk 2 (pc' := 2) (ls' := [some (.int x), some (.int y)]) (sk' := [.int y, .int x]) (st' := st) (fun _ h => h) ?_
  refine w_cmp_lt rfl (fun h1 => ?_) (fun h1 => ?_)
  · refine w_blk 1 (pc' := 10) (ls' := [some (.int x), some (.int y)]) (sk' := [.int y]) (st' := st) (fun _ h => h) ?_
    first | rw [if_pos (by simp only [Int32.le_iff_toInt_le, Int32.lt_iff_toInt_lt] at *; omega)] at hq | rw [if_neg (by simp only [Int32.le_iff_toInt_le, Int32.lt_iff_toInt_lt] at *; omega)] at hq
    exact w_iret rfl rfl rfl hq
  · refine w_blk 2 (pc' := 10) (ls' := [some (.int x), some (.int y)]) (sk' := [.int x]) (st' := st) (fun _ h => h) ?_
    first | rw [if_pos (by simp only [Int32.le_iff_toInt_le, Int32.lt_iff_toInt_lt] at *; omega)] at hq | rw [if_neg (by simp only [Int32.le_iff_toInt_le, Int32.lt_iff_toInt_lt] at *; omega)] at hq
    exact w_iret rfl rfl rfl hq
set_option maxRecDepth 20000 in
/-- min -/
theorem c_min (d : Nat) (x y : Int32) (st : mSt) : mMC mT (d + 1) 4 [.int x, .int y] st (some (.int (if y < x then y else x))) st := by
  refine mI_J9_min_7cf53 (d := d + 0) (Nat.le_of_ble_eq_true rfl) (fun Q hq => ?_)
  show mW (mMC mT (d + 0)) (0, fun _ => 0) (mAtL P_J9_min_7cf53) (some .int) Q 0 [some (.int x), some (.int y)] [] st
  refine w_blk 2 (pc' := 2) (ls' := [some (.int x), some (.int y)]) (sk' := [.int y, .int x]) (st' := st) (fun _ h => h) ?_
  refine w_cmp_gt rfl (fun h1 => ?_) (fun h1 => ?_)
  · refine w_blk 1 (pc' := 10) (ls' := [some (.int x), some (.int y)]) (sk' := [.int y]) (st' := st) (fun _ h => h) ?_
    first | rw [if_pos (by simp only [Int32.le_iff_toInt_le, Int32.lt_iff_toInt_lt] at *; omega)] at hq | rw [if_neg (by simp only [Int32.le_iff_toInt_le, Int32.lt_iff_toInt_lt] at *; omega)] at hq
    exact w_iret rfl rfl rfl hq
  · refine w_blk 2 (pc' := 10) (ls' := [some (.int x), some (.int y)]) (sk' := [.int x]) (st' := st) (fun _ h => h) ?_
    first | rw [if_pos (by simp only [Int32.le_iff_toInt_le, Int32.lt_iff_toInt_lt] at *; omega)] at hq | rw [if_neg (by simp only [Int32.le_iff_toInt_le, Int32.lt_iff_toInt_lt] at *; omega)] at hq
    exact w_iret rfl rfl rfl hq
abbrev bitP (b p : Int32) : Prop := 0 ≤ p ∧ p < 32 ∧ ¬ ((Int32.toUInt32 b >>> (Int32.toUInt32 p &&& Int32.toUInt32 31)).toInt32 &&& 1) = 0
set_option maxRecDepth 20000 in
/-- hasBit(b, p) -/
theorem c_hasBit (d : Nat) (b p : Int32) (st : mSt) : mMC mT (d + 1) 122 [.int b, .int p] st (some (.int (pI (bitP b p)))) st := by
  refine mI_X9_hasBit (d := d + 0) (Nat.le_of_ble_eq_true rfl) (fun Q hq => ?_)
  show mW (mMC mT (d + 0)) (0, fun _ => 0) (mAtL P_X9_hasBit) (some .boolean) Q 0 [some (.int b), some (.int p)] [] st
  refine w_blk 1 (pc' := 1) (ls' := [some (.int b), some (.int p)]) (sk' := [.int p]) (st' := st) (fun _ h => h) ?_
  refine w_if_lt rfl (fun h1 => ?_) (fun h1 => ?_)
  · refine w_blk 1 (pc' := 23) (ls' := [some (.int b), some (.int p)]) (sk' := [.int 0]) (st' := st) (fun _ h => h) ?_
    rw [pI_f (fun hh => by first | exact absurd hh.1 (by simp only [Int32.le_iff_toInt_le, Int32.lt_iff_toInt_lt] at *; omega) | exact absurd hh.2.1 (by simp only [Int32.le_iff_toInt_le, Int32.lt_iff_toInt_lt] at *; omega) | exact hh.2.2 (by assumption))] at hq
    exact w_iret rfl rfl rfl hq
  · refine w_blk 2 (pc' := 7) (ls' := [some (.int b), some (.int p)]) (sk' := [.int 32, .int p]) (st' := st) (fun _ h => h) ?_
    refine w_cmp_ge rfl (fun h2 => ?_) (fun h2 => ?_)
    · refine w_blk 1 (pc' := 23) (ls' := [some (.int b), some (.int p)]) (sk' := [.int 0]) (st' := st) (fun _ h => h) ?_
      rw [pI_f (fun hh => by first | exact absurd hh.1 (by simp only [Int32.le_iff_toInt_le, Int32.lt_iff_toInt_lt] at *; omega) | exact absurd hh.2.1 (by simp only [Int32.le_iff_toInt_le, Int32.lt_iff_toInt_lt] at *; omega) | exact hh.2.2 (by assumption))] at hq
      exact w_iret rfl rfl rfl hq
    · refine w_blk 5 (pc' := 15) (ls' := [some (.int b), some (.int p)]) (sk' := [.int (((Int32.toUInt32 b >>> (Int32.toUInt32 p &&& Int32.toUInt32 31)).toInt32) &&& 1)]) (st' := st) (fun _ h => h) ?_
      refine w_if_eq rfl (fun h3 => ?_) (fun h3 => ?_)
      · refine w_blk 1 (pc' := 23) (ls' := [some (.int b), some (.int p)]) (sk' := [.int 0]) (st' := st) (fun _ h => h) ?_
        rw [pI_f (fun hh => by first | exact absurd hh.1 (by simp only [Int32.le_iff_toInt_le, Int32.lt_iff_toInt_lt] at *; omega) | exact absurd hh.2.1 (by simp only [Int32.le_iff_toInt_le, Int32.lt_iff_toInt_lt] at *; omega) | exact hh.2.2 (by assumption))] at hq
        exact w_iret rfl rfl rfl hq
      · refine w_blk 2 (pc' := 23) (ls' := [some (.int b), some (.int p)]) (sk' := [.int 1]) (st' := st) (fun _ h => h) ?_
        rw [pI_t (⟨by simp only [Int32.le_iff_toInt_le, Int32.lt_iff_toInt_lt] at *; omega, by simp only [Int32.le_iff_toInt_le, Int32.lt_iff_toInt_lt] at *; omega, by assumption⟩)] at hq
        exact w_iret rfl rfl rfl hq
set_option maxRecDepth 20000 in
/-- asNumber of a truth -/
theorem c_asNumberP (d : Nat) (p : Prop) [Decidable p] (st : mSt) : mMC mT (d + 1) 123 [.int (pI p)] st (some (.int (pI p))) st := by
  refine mI_X9_asNumber (d := d + 0) (Nat.le_of_ble_eq_true rfl) (fun Q hq => ?_)
  show mW (mMC mT (d + 0)) (0, fun _ => 0) (mAtL P_X9_asNumber) (some .int) Q 0 [some (.int (pI p))] [] st
  refine w_blk 1 (pc' := 1) (ls' := [some (.int (pI p))]) (sk' := [.int (pI p)]) (st' := st) (fun _ h => h) ?_
  refine w_if_eq rfl (fun h1 => ?_) (fun h1 => ?_)
  · replace h1 := pI_eq0.mp h1
    refine w_blk 1 (pc' := 9) (ls' := [some (.int (pI p))]) (sk' := [.int 0]) (st' := st) (fun _ h => h) ?_
    rw [pI_f h1] at hq
    exact w_iret rfl rfl rfl hq
  · replace h1 := pI_ne.mp h1
    refine w_blk 2 (pc' := 9) (ls' := [some (.int (pI p))]) (sk' := [.int 1]) (st' := st) (fun _ h => h) ?_
    rw [pI_t h1] at hq
    exact w_iret rfl rfl rfl hq
set_option maxRecDepth 20000 in
/-- quotient -/
theorem c_quot (d : Nat) (x y : Int32) (st : mSt) : mMC mT (d + 1) 128 [.int x, .int y] st (some (.int (if y < 1 then 0 else x / y))) st := by
  refine mI_X9_quotient (d := d + 0) (Nat.le_of_ble_eq_true rfl) (fun Q hq => ?_)
  show mW (mMC mT (d + 0)) (0, fun _ => 0) (mAtL P_X9_quotient) (some .int) Q 0 [some (.int x), some (.int y)] [] st
  refine w_blk 2 (pc' := 2) (ls' := [some (.int x), some (.int y)]) (sk' := [.int 1, .int y]) (st' := st) (fun _ h => h) ?_
  refine w_cmp_ge rfl (fun h1 => ?_) (fun h1 => ?_)
  · refine w_blk 2 (pc' := 11) (ls' := [some (.int x), some (.int y)]) (sk' := [.int y, .int x]) (st' := st) (fun _ h => h) ?_
    refine w_div rfl (fun e => absurd h1 (by rw [e]; decide)) ?_
    first | rw [if_pos (by simp only [Int32.le_iff_toInt_le, Int32.lt_iff_toInt_lt] at *; omega)] at hq | rw [if_neg (by simp only [Int32.le_iff_toInt_le, Int32.lt_iff_toInt_lt] at *; omega)] at hq
    exact w_iret rfl rfl rfl hq
  · refine w_blk 2 (pc' := 12) (ls' := [some (.int x), some (.int y)]) (sk' := [.int 0]) (st' := st) (fun _ h => h) ?_
    first | rw [if_pos (by simp only [Int32.le_iff_toInt_le, Int32.lt_iff_toInt_lt] at *; omega)] at hq | rw [if_neg (by simp only [Int32.le_iff_toInt_le, Int32.lt_iff_toInt_lt] at *; omega)] at hq
    exact w_iret rfl rfl rfl hq
set_option maxRecDepth 20000 in
/-- remainder -/
theorem c_rem (d : Nat) (x y : Int32) (st : mSt) : mMC mT (d + 1) 129 [.int x, .int y] st (some (.int (if y < 1 then 0 else x - x / y * y))) st := by
  refine mI_X9_remainder (d := d + 0) (Nat.le_of_ble_eq_true rfl) (fun Q hq => ?_)
  show mW (mMC mT (d + 0)) (0, fun _ => 0) (mAtL P_X9_remainder) (some .int) Q 0 [some (.int x), some (.int y)] [] st
  refine w_blk 2 (pc' := 2) (ls' := [some (.int x), some (.int y)]) (sk' := [.int 1, .int y]) (st' := st) (fun _ h => h) ?_
  refine w_cmp_ge rfl (fun h1 => ?_) (fun h1 => ?_)
  · refine w_blk 2 (pc' := 11) (ls' := [some (.int x), some (.int y)]) (sk' := [.int y, .int x]) (st' := st) (fun _ h => h) ?_
    refine w_rem rfl (fun e => absurd h1 (by rw [e]; decide)) ?_
    first | rw [if_pos (by simp only [Int32.le_iff_toInt_le, Int32.lt_iff_toInt_lt] at *; omega)] at hq | rw [if_neg (by simp only [Int32.le_iff_toInt_le, Int32.lt_iff_toInt_lt] at *; omega)] at hq
    exact w_iret rfl rfl rfl hq
  · refine w_blk 2 (pc' := 12) (ls' := [some (.int x), some (.int y)]) (sk' := [.int 0]) (st' := st) (fun _ h => h) ?_
    first | rw [if_pos (by simp only [Int32.le_iff_toInt_le, Int32.lt_iff_toInt_lt] at *; omega)] at hq | rw [if_neg (by simp only [Int32.le_iff_toInt_le, Int32.lt_iff_toInt_lt] at *; omega)] at hq
    exact w_iret rfl rfl rfl hq
def celV (f : Nat → Int32) (n : Nat) (i : Int32) : Int32 := if i < 0 then 0 else if nI n ≤ i then 0 else f i.toNatClampNeg
theorem celV_at {f : Nat → Int32} {n k : Nat} (h : k < n) (hn : n < 2 ^ 31) : celV f n (nI k) = f k := by
  unfold celV
  rw [if_neg (nI_pos (by omega)), if_neg (nI_ge h hn), nI_clamp (by omega)]
def putU (st : mSt) (a n : Nat) (i x : Int32) : mSt := if i < 0 then st else if nI n ≤ i then st else (mU st.1 a i.toNatClampNeg x, st.2)
theorem putU_at {st : mSt} {a n k : Nat} {x : Int32} (h : k < n) (hn : n < 2 ^ 31) : putU st a n (nI k) x = (mU st.1 a k x, st.2) := by
  unfold putU
  rw [if_neg (nI_pos (by omega)), if_neg (nI_ge h hn), nI_clamp (by omega)]
def filU (f : Nat → Nat → Int32) (a n : Nat) (x : Int32) : Nat → Nat → Int32 := fun q j => if q = a ∧ j < n then x else f q j
theorem filU_0 {f : Nat → Nat → Int32} {a : Nat} {x : Int32} : filU f a 0 x = f := by
  funext q j
  exact if_neg (fun h => Nat.not_lt_zero _ h.2)
theorem filU_s {f : Nat → Nat → Int32} {a n : Nat} {x : Int32} : mU (filU f a n x) a n x = filU f a (n + 1) x := by
  funext q j
  by_cases hq : q = a
  · subst hq
    show (if q = q then upd (filU f q n x q) n x else filU f q n x q) j = _
    rw [if_pos rfl]
    show (if j = n then x else (if q = q ∧ j < n then x else f q j)) = (if q = q ∧ j < n + 1 then x else f q j)
    by_cases h1 : j = n
    · rw [if_pos h1, if_pos ⟨rfl, by omega⟩]
    · rw [if_neg h1]
      by_cases h2 : j < n
      · rw [if_pos ⟨rfl, h2⟩, if_pos ⟨rfl, by omega⟩]
      · rw [if_neg (fun h => h2 h.2), if_neg (fun h => h2 (by have := h.2; omega))]
  · show (if q = a then upd (filU f a n x a) n x else filU f a n x q) j = _
    rw [if_neg hq]
    show (if q = a ∧ j < n then x else f q j) = (if q = a ∧ j < n + 1 then x else f q j)
    rw [if_neg (fun h => hq h.1), if_neg (fun h => hq h.1)]
theorem filU_ne {f : Nat → Nat → Int32} {a n q : Nat} {x : Int32} (h : q ≠ a) : filU f a n x q = f q := by
  funext j
  exact if_neg (fun e => h e.1)
theorem filU_at {f : Nat → Nat → Int32} {a n j : Nat} {x : Int32} (h : j < n) : filU f a n x a j = x := if_pos ⟨rfl, h⟩
def cpyU (f : Nat → Nat → Int32) (a b n : Nat) : Nat → Nat → Int32 := fun q j => if q = b ∧ j < n then f a j else f q j
theorem cpyU_0 {f : Nat → Nat → Int32} {a b : Nat} : cpyU f a b 0 = f := by
  funext q j
  exact if_neg (fun h => Nat.not_lt_zero _ h.2)
theorem cpyU_s {f : Nat → Nat → Int32} {a b n : Nat} : mU (cpyU f a b n) b n (f a n) = cpyU f a b (n + 1) := by
  funext q j
  by_cases hq : q = b
  · subst hq
    show (if q = q then upd (cpyU f a q n q) n (f a n) else cpyU f a q n q) j = _
    rw [if_pos rfl]
    show (if j = n then f a n else (if q = q ∧ j < n then f a j else f q j)) = (if q = q ∧ j < n + 1 then f a j else f q j)
    by_cases h1 : j = n
    · rw [if_pos h1, if_pos ⟨rfl, by omega⟩, h1]
    · rw [if_neg h1]
      by_cases h2 : j < n
      · rw [if_pos ⟨rfl, h2⟩, if_pos ⟨rfl, by omega⟩]
      · rw [if_neg (fun h => h2 h.2), if_neg (fun h => h2 (by have := h.2; omega))]
  · show (if q = b then upd (cpyU f a b n b) n (f a n) else cpyU f a b n q) j = _
    rw [if_neg hq]
    show (if q = b ∧ j < n then f a j else f q j) = (if q = b ∧ j < n + 1 then f a j else f q j)
    rw [if_neg (fun h => hq h.1), if_neg (fun h => hq h.1)]
theorem cpyU_ne {f : Nat → Nat → Int32} {a b n q : Nat} (h : q ≠ b) : cpyU f a b n q = f q := by
  funext j
  exact if_neg (fun e => h e.1)
theorem cpyU_at {f : Nat → Nat → Int32} {a b n j : Nat} (h : j < n) : cpyU f a b n b j = f a j := if_pos ⟨rfl, h⟩
theorem lay0_130 {a n : Nat} {fs : List (Nat × Nat)} (h : lay a = (0, n, fs)) : Nat.beq a 130 = false := by
  have h1 : a < 86 := lay_lt (by rw [h]; simp)
  cases hb : Nat.beq a 130
  · rfl
  · have := Nat.eq_of_beq_eq_true hb
    omega
theorem vp_in_ii {i : Int32} {n : Nat} (hn : n < 2 ^ 31) (h1 : ¬ i < 0) (h2 : ¬ nI n ≤ i) : vp_in i n := by
  rw [vp_in_iff]
  simp only [Int32.le_iff_toInt_le, Int32.lt_iff_toInt_lt, nI_toInt hn] at h1 h2
  have h0 : (0 : Int32).toInt = 0 := rfl
  omega
set_option maxRecDepth 20000 in
/-- cell(row, i) -/
theorem c_cell (d : Nat) (a n : Nat) (i : Int32) (st : mSt) (hn : n < 2 ^ 31) (hl : lay a = (0, n, [])) : mMC mT (d + 1) 124 [.ref a, .int i] st (some (.int (celV (st.1 a) n i))) st := by
  refine mI_X9_cell (d := d + 0) (Nat.le_of_ble_eq_true rfl) (fun Q hq => ?_)
  show mW (mMC mT (d + 0)) (0, fun _ => 0) (mAtL P_X9_cell) (some .int) Q 0 [some (.ref a), some (.int i)] [] st
  refine w_blk 1 (pc' := 1) (ls' := [some (.ref a), some (.int i)]) (sk' := [.int i]) (st' := st) (fun _ h => h) ?_
  refine w_if_lt rfl (fun h1 => ?_) (fun h1 => ?_)
  · refine w_blk 1 (pc' := 17) (ls' := [some (.ref a), some (.int i)]) (sk' := [.int 0]) (st' := st) (fun _ h => h) ?_
    unfold celV at hq
    first | rw [if_pos (by assumption)] at hq | rw [if_neg (by assumption), if_pos (by assumption)] at hq | rw [if_neg (by assumption), if_neg (by assumption)] at hq
    exact w_iret rfl rfl rfl hq
  · refine w_blk 1 (pc' := 5) (ls' := [some (.ref a), some (.int i)]) (sk' := [.int i]) (st' := st) (fun _ h => h) ?_
    refine w_aload_n rfl rfl (lay0_130 hl) ?_
    refine w_alen rfl hl ?_
    refine w_cmp_ge rfl (fun h2 => ?_) (fun h2 => ?_)
    · refine w_blk 1 (pc' := 17) (ls' := [some (.ref a), some (.int i)]) (sk' := [.int 0]) (st' := st) (fun _ h => h) ?_
      unfold celV at hq
      first | rw [if_pos (by assumption)] at hq | rw [if_neg (by assumption), if_pos (by assumption)] at hq | rw [if_neg (by assumption), if_neg (by assumption)] at hq
      exact w_iret rfl rfl rfl hq
    · refine w_aload_n rfl rfl (lay0_130 hl) ?_
      refine w_blk 1 (pc' := 12) (ls' := [some (.ref a), some (.int i)]) (sk' := [.int i, .ref a]) (st' := st) (fun _ h => h) ?_
      refine w_iald rfl hl (vp_in_ii hn (by assumption) (by assumption)) ?_
      refine w_blk 1 (pc' := 17) (ls' := [some (.ref a), some (.int i)]) (sk' := [.int (st.1 a (Int32.toNatClampNeg i))]) (st' := st) (fun _ h => h) ?_
      unfold celV at hq
      first | rw [if_pos (by assumption)] at hq | rw [if_neg (by assumption), if_pos (by assumption)] at hq | rw [if_neg (by assumption), if_neg (by assumption)] at hq
      exact w_iret rfl rfl rfl hq
set_option maxRecDepth 20000 in
/-- put(row, i, x) -/
theorem c_put (d : Nat) (a n : Nat) (i x : Int32) (st : mSt) (hn : n < 2 ^ 31) (hl : lay a = (0, n, [])) : mMC mT (d + 1) 125 [.ref a, .int i, .int x] st (none) (putU st a n i x) := by
  refine mI_X9_put (d := d + 0) (Nat.le_of_ble_eq_true rfl) (fun Q hq => ?_)
  show mW (mMC mT (d + 0)) (0, fun _ => 0) (mAtL P_X9_put) none Q 0 [some (.ref a), some (.int i), some (.int x)] [] st
  refine w_blk 1 (pc' := 1) (ls' := [some (.ref a), some (.int i), some (.int x)]) (sk' := [.int i]) (st' := st) (fun _ h => h) ?_
  refine w_if_lt rfl (fun h1 => ?_) (fun h1 => ?_)
  · unfold putU at hq
    first | rw [if_pos (by assumption)] at hq | rw [if_neg (by assumption), if_pos (by assumption)] at hq | rw [if_neg (by assumption), if_neg (by assumption)] at hq
    exact w_vret rfl rfl hq
  · refine w_blk 1 (pc' := 5) (ls' := [some (.ref a), some (.int i), some (.int x)]) (sk' := [.int i]) (st' := st) (fun _ h => h) ?_
    refine w_aload_n rfl rfl (lay0_130 hl) ?_
    refine w_alen rfl hl ?_
    refine w_cmp_ge rfl (fun h2 => ?_) (fun h2 => ?_)
    · unfold putU at hq
      first | rw [if_pos (by assumption)] at hq | rw [if_neg (by assumption), if_pos (by assumption)] at hq | rw [if_neg (by assumption), if_neg (by assumption)] at hq
      exact w_vret rfl rfl hq
    · refine w_aload_n rfl rfl (lay0_130 hl) ?_
      refine w_blk 2 (pc' := 13) (ls' := [some (.ref a), some (.int i), some (.int x)]) (sk' := [.int x, .int i, .ref a]) (st' := st) (fun _ h => h) ?_
      refine w_iast rfl hl (vp_in_ii hn (by assumption) (by assumption)) ?_
      unfold putU at hq
      first | rw [if_pos (by assumption)] at hq | rw [if_neg (by assumption), if_pos (by assumption)] at hq | rw [if_neg (by assumption), if_neg (by assumption)] at hq
      exact w_vret rfl rfl hq
set_option maxRecDepth 20000 in
/-- fill(row, x) -/
theorem c_fill (d : Nat) (a n : Nat) (x : Int32) (st : mSt) (hn : n < 2 ^ 31) (hl : lay a = (0, n, [])) : mMC mT (d + 1) 126 [.ref a, .int x] st (none) (filU st.1 a n x, st.2) := by
  refine mI_X9_fill (d := d + 0) (Nat.le_of_ble_eq_true rfl) (fun Q hq => ?_)
  show mW (mMC mT (d + 0)) (0, fun _ => 0) (mAtL P_X9_fill) none Q 0 [some (.ref a), some (.int x), none] [] st
  refine w_blk 2 (pc' := 2) (ls' := [some (.ref a), some (.int x), some (.int 0)]) (sk' := []) (st' := st) (fun _ h => h) ?_
  suffices key : ∀ (m k : Nat), k + m = n → mW (mMC mT (d + 0)) (0, fun _ => 0) (mAtL P_X9_fill) none Q 2 [some (.ref a), some (.int x), some (.int (nI k))] [] (filU st.1 a k x, st.2) by
    have := key n 0 (by omega)
    rw [filU_0] at this
    exact this
  intro m
  induction m with
  | zero =>
    intro k hk
    refine w_blk 1 (pc' := 3) (ls' := [some (.ref a), some (.int x), some (.int (nI k))]) (sk' := [.int (nI k)]) (st' := (filU st.1 a k x, st.2)) (fun _ h => h) ?_
    refine w_aload_n rfl rfl (lay0_130 hl) ?_
    refine w_alen rfl hl ?_
    refine w_cmp_ge rfl (fun _ => ?_) (fun hno => absurd (by rw [show k = n by omega]; exact Int32.le_refl _) hno)
    exact w_vret rfl rfl (by rw [show k = n by omega]; exact hq)
  | succ m ih =>
    intro k hk
    refine w_blk 1 (pc' := 3) (ls' := [some (.ref a), some (.int x), some (.int (nI k))]) (sk' := [.int (nI k)]) (st' := (filU st.1 a k x, st.2)) (fun _ h => h) ?_
    refine w_aload_n rfl rfl (lay0_130 hl) ?_
    refine w_alen rfl hl ?_
    refine w_cmp_ge rfl (fun hno => absurd hno (nI_ge (show k < n by omega) hn)) (fun _ => ?_)
    refine w_aload_n rfl rfl (lay0_130 hl) ?_
    refine w_blk 2 (pc' := 11) (ls' := [some (.ref a), some (.int x), some (.int (nI k))]) (sk' := [.int x, .int (nI k), .ref a]) (st' := (filU st.1 a k x, st.2)) (fun _ h => h) ?_
    refine w_iast rfl hl (vp_in_nI (show k < n by omega) hn) ?_
    rw [nI_clamp (show k < 2 ^ 31 by omega)]
    refine w_blk 2 (pc' := 2) (ls' := [some (.ref a), some (.int x), some (.int ((nI k) + 1))]) (sk' := []) (st' := ((mU (filU st.1 a k x, st.2).1 a k x), (filU st.1 a k x, st.2).2)) (fun _ h => h) ?_
    show mW (mMC mT (d + 0)) (0, fun _ => 0) (mAtL P_X9_fill) none Q 2 [some (.ref a), some (.int x), some (.int ((nI k) + 1))] [] (mU (filU st.1 a k x) a k x, st.2)
    rw [filU_s, nI_1]
    exact ih (k + 1) (by omega)
set_option maxRecDepth 20000 in
/-- copy(from, into), rows of one length -/
theorem c_copy (d : Nat) (a b n : Nat) (st : mSt) (hn : n < 2 ^ 31) (hl : lay a = (0, n, [])) (hl2 : lay b = (0, n, [])) (hab : a ≠ b) : mMC mT (d + 1) 127 [.ref a, .ref b] st (none) (cpyU st.1 a b n, st.2) := by
  refine mI_X9_copy (d := d + 0) (Nat.le_of_ble_eq_true rfl) (fun Q hq => ?_)
  show mW (mMC mT (d + 0)) (0, fun _ => 0) (mAtL P_X9_copy) none Q 0 [some (.ref a), some (.ref b), none] [] st
  refine w_blk 2 (pc' := 2) (ls' := [some (.ref a), some (.ref b), some (.int 0)]) (sk' := []) (st' := st) (fun _ h => h) ?_
  suffices key : ∀ (m k : Nat), k + m = n → mW (mMC mT (d + 0)) (0, fun _ => 0) (mAtL P_X9_copy) none Q 2 [some (.ref a), some (.ref b), some (.int (nI k))] [] (cpyU st.1 a b k, st.2) by
    have := key n 0 (by omega)
    rw [cpyU_0] at this
    exact this
  intro m
  induction m with
  | zero =>
    intro k hk
    refine w_blk 1 (pc' := 3) (ls' := [some (.ref a), some (.ref b), some (.int (nI k))]) (sk' := [.int (nI k)]) (st' := (cpyU st.1 a b k, st.2)) (fun _ h => h) ?_
    refine w_aload_n rfl rfl (lay0_130 hl) ?_
    refine w_alen rfl hl ?_
    refine w_cmp_ge rfl (fun _ => ?_) (fun hno => absurd (by rw [show k = n by omega]; exact Int32.le_refl _) hno)
    exact w_vret rfl rfl (by rw [show k = n by omega]; exact hq)
  | succ m ih =>
    intro k hk
    refine w_blk 1 (pc' := 3) (ls' := [some (.ref a), some (.ref b), some (.int (nI k))]) (sk' := [.int (nI k)]) (st' := (cpyU st.1 a b k, st.2)) (fun _ h => h) ?_
    refine w_aload_n rfl rfl (lay0_130 hl) ?_
    refine w_alen rfl hl ?_
    refine w_cmp_ge rfl (fun hno => absurd hno (nI_ge (show k < n by omega) hn)) (fun _ => ?_)
    refine w_blk 1 (pc' := 9) (ls' := [some (.ref a), some (.ref b), some (.int (nI k))]) (sk' := [.int (nI k)]) (st' := (cpyU st.1 a b k, st.2)) (fun _ h => h) ?_
    refine w_aload_n rfl rfl (lay0_130 hl2) ?_
    refine w_alen rfl hl2 ?_
    refine w_cmp_ge rfl (fun hno => absurd hno (nI_ge (show k < n by omega) hn)) (fun _ => ?_)
    refine w_aload_n rfl rfl (lay0_130 hl2) ?_
    refine w_blk 1 (pc' := 16) (ls' := [some (.ref a), some (.ref b), some (.int (nI k))]) (sk' := [.int (nI k), .ref b]) (st' := (cpyU st.1 a b k, st.2)) (fun _ h => h) ?_
    refine w_aload_n rfl rfl (lay0_130 hl) ?_
    refine w_blk 1 (pc' := 18) (ls' := [some (.ref a), some (.ref b), some (.int (nI k))]) (sk' := [.int (nI k), .ref a, .int (nI k), .ref b]) (st' := (cpyU st.1 a b k, st.2)) (fun _ h => h) ?_
    refine w_iald rfl hl (vp_in_nI (show k < n by omega) hn) ?_
    rw [nI_clamp (show k < 2 ^ 31 by omega)]
    show mW (mMC mT (d + 0)) (0, fun _ => 0) (mAtL P_X9_copy) none Q 19 [some (.ref a), some (.ref b), some (.int (nI k))] [.int (cpyU st.1 a b k a k), .int (nI k), .ref b] (cpyU st.1 a b k, st.2)
    rw [cpyU_ne hab]
    refine w_iast rfl hl2 (vp_in_nI (show k < n by omega) hn) ?_
    rw [nI_clamp (show k < 2 ^ 31 by omega)]
    refine w_blk 2 (pc' := 2) (ls' := [some (.ref a), some (.ref b), some (.int ((nI k) + 1))]) (sk' := []) (st' := ((mU (cpyU st.1 a b k, st.2).1 b k (st.1 a k)), (cpyU st.1 a b k, st.2).2)) (fun _ h => h) ?_
    show mW (mMC mT (d + 0)) (0, fun _ => 0) (mAtL P_X9_copy) none Q 2 [some (.ref a), some (.ref b), some (.int ((nI k) + 1))] [] (mU (cpyU st.1 a b k) b k (st.1 a k), st.2)
    rw [cpyU_s, nI_1]
    exact ih (k + 1) (by omega)
theorem c_cellK (d a n k : Nat) (st : mSt) (hk : k < n) (hn : n < 2 ^ 31) (hl : lay a = (0, n, [])) : mMC mT (d + 1) 124 [.ref a, .int (nI k)] st (some (.int (st.1 a k))) st := by
  have h := c_cell d a n (nI k) st hn hl
  rw [celV_at hk hn] at h
  exact h
theorem c_putK (d a n k : Nat) (x : Int32) (st : mSt) (hk : k < n) (hn : n < 2 ^ 31) (hl : lay a = (0, n, [])) : mMC mT (d + 1) 125 [.ref a, .int (nI k), .int x] st none (mU st.1 a k x, st.2) := by
  have h := c_put d a n (nI k) x st hn hl
  rw [putU_at hk hn] at h
  exact h
