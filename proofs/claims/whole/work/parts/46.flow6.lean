/-! FLOWS: whole numbers as the machine's words; the most, step by step; the model's rows -/
def iI (z : Int) : Int32 := Int32.ofInt z
theorem iI_toInt {z : Int} (h1 : -1073741824 ≤ z) (h2 : z ≤ 1073741823) : (iI z).toInt = z := by
  unfold iI
  rw [Int32.toInt_ofInt]
  show Int.bmod z (2 ^ 32) = z
  rw [Int.bmod_eq_of_le (by omega) (by omega)]
theorem iI_nI (n : Nat) : iI (n : Int) = nI n := rfl
theorem iI_lt {a b : Int} (a1 : -1073741824 ≤ a) (a2 : a ≤ 1073741823) (b1 : -1073741824 ≤ b) (b2 : b ≤ 1073741823) : iI a < iI b ↔ a < b := by rw [Int32.lt_iff_toInt_lt, iI_toInt a1 a2, iI_toInt b1 b2]
theorem iI_le {a b : Int} (a1 : -1073741824 ≤ a) (a2 : a ≤ 1073741823) (b1 : -1073741824 ≤ b) (b2 : b ≤ 1073741823) : iI a ≤ iI b ↔ a ≤ b := by rw [Int32.le_iff_toInt_le, iI_toInt a1 a2, iI_toInt b1 b2]
theorem iI_eq {a b : Int} (a1 : -1073741824 ≤ a) (a2 : a ≤ 1073741823) (b1 : -1073741824 ≤ b) (b2 : b ≤ 1073741823) : iI a = iI b ↔ a = b := by rw [← Int32.toInt_inj, iI_toInt a1 a2, iI_toInt b1 b2]
theorem iI_add (a b : Int) : iI a + iI b = iI (a + b) := (Int32.ofInt_add a b).symm
theorem iI_sub (a b : Int) : iI a - iI b = iI (a - b) := (Int32.ofInt_sub a b).symm
theorem iI_NO : (-1000000 : Int32) = iI NOi := by decide +kernel
theorem iI_1000 : (1000 : Int32) = iI 1000 := by decide +kernel
theorem iI_0 : (0 : Int32) = iI 0 := by decide +kernel
/-- labels stay small -/
def LBD (s : LabT) (B : Int) : Prop := ∀ v, s.1 v = NOi ∨ (-B ≤ s.1 v ∧ s.1 v ≤ B)
theorem LBD_rk {A : ArcT} (hA : ∀ k u v l, k < 48 → A k = some (u, v, l) → -1000 ≤ l ∧ l ≤ 1000) {s : LabT} {B : Int} (h0 : 0 ≤ B) (h : LBD s B) : ∀ k, k ≤ 48 → LBD (rk A s k) (B + 1000 * k) := by
  intro k
  induction k with
  | zero =>
    intro _ v
    have := h v
    have e0 : (rk A s 0).1 v = s.1 v := rfl
    omega
  | succ k ih =>
    intro hk v
    have h1 := ih (by omega)
    rcases ha : A k with _ | ⟨a, b, l⟩
    · have e : rk A s (k + 1) = rk A s k := by
        show (match A k with | none => rk A s k | some (u, v, l) => rel u v l (rk A s k)) = _
        rw [ha]
      rw [e]
      have := h1 v
      omega
    · have e : rk A s (k + 1) = rel a b l (rk A s k) := by
        show (match A k with | none => rk A s k | some (u, v, l) => rel u v l (rk A s k)) = _
        rw [ha]
      rw [e]
      have hl := hA k a b l (by omega) ha
      by_cases hc : (rk A s k).1 a ≠ NOi ∧ (rk A s k).1 b < (rk A s k).1 a + l
      · rw [show rel a b l (rk A s k) = (upI (rk A s k).1 b ((rk A s k).1 a + l), updN (rk A s k).2 b a) from if_pos hc]
        show upI (rk A s k).1 b ((rk A s k).1 a + l) v = NOi ∨ (_ ≤ upI (rk A s k).1 b ((rk A s k).1 a + l) v ∧ upI (rk A s k).1 b ((rk A s k).1 a + l) v ≤ _)
        by_cases ev : v = b
        · subst ev
          rw [upI_s]
          have := h1 a
          have := hc.1
          omega
        · rw [upI_n ev]
          have := h1 v
          omega
      · rw [show rel a b l (rk A s k) = rk A s k from if_neg hc]
        have := h1 v
        omega
theorem fA_bd {T E : EdT} {w : Nat → Nat → Int} (hw : WB w) : ∀ k u v l, k < 48 → fA T E w k = some (u, v, l) → -1000 ≤ l ∧ l ≤ 1000 := by
  intro k u v l hk ha
  obtain ⟨d, s, hd, hs, -, ⟨-, -, -, e⟩ | ⟨-, -, -, -, e⟩⟩ := fA_inv hk ha
  · have := hw d s
    omega
  · have := hw d s
    omega
theorem LBD_tn {T E : EdT} {w : Nat → Nat → Int} (hw : WB w) {r nd : Nat} : ∀ i : Nat, LBD (tn (fA T E w) (ini T r nd) i) (48000 * (i : Int)) := by
  intro i
  induction i with
  | zero =>
    intro v
    show (if v < 6 ∧ v < nd ∧ dD T v < r then (0 : Int) else NOi) = NOi ∨ (_ ≤ (if v < 6 ∧ v < nd ∧ dD T v < r then (0 : Int) else NOi) ∧ (if v < 6 ∧ v < nd ∧ dD T v < r then (0 : Int) else NOi) ≤ _)
    by_cases h : v < 6 ∧ v < nd ∧ dD T v < r
    · rw [if_pos h]
      exact Or.inr ⟨by omega, by omega⟩
    · rw [if_neg h]
      exact Or.inl rfl
  | succ i ih =>
    have h := LBD_rk (fA_bd (T := T) (E := E) hw) (by omega) ih 48 (Nat.le_refl _)
    intro v
    have h2 := h v
    show (rk (fA T E w) (tn (fA T E w) (ini T r nd) i) 48).1 v = NOi ∨ (_ ≤ (rk (fA T E w) (tn (fA T E w) (ini T r nd) i) 48).1 v ∧ (rk (fA T E w) (tn (fA T E w) (ini T r nd) i) 48).1 v ≤ _)
    omega
/-- all that a walk needs of the labels within a search -/
theorem LBD_at {T E : EdT} {w : Nat → Nat → Int} (hw : WB w) {r nd i k : Nat} (hi : i ≤ 15) (hk : k ≤ 48) (v : Nat) : (rk (fA T E w) (tn (fA T E w) (ini T r nd) i) k).1 v = NOi ∨ (-800000 ≤ (rk (fA T E w) (tn (fA T E w) (ini T r nd) i) k).1 v ∧ (rk (fA T E w) (tn (fA T E w) (ini T r nd) i) k).1 v ≤ 800000) := by
  have h := LBD_rk (fA_bd (T := T) (E := E) hw) (by omega) (LBD_tn (T := T) (E := E) hw (r := r) (nd := nd) i) k hk v
  omega
theorem rk_t {T E : EdT} {w : Nat → Nat → Int} {s : LabT} {k : Nat} (h : T (k / 8) (k % 8) = true) : rk (fA T E w) s (k + 1) = rel (6 + k % 8) (k / 8) (- w (k / 8) (k % 8)) (rk (fA T E w) s k) := by
  show (match fA T E w k with | none => rk (fA T E w) s k | some (u, v, l) => rel u v l (rk (fA T E w) s k)) = _
  rw [show fA T E w k = some (6 + k % 8, k / 8, - w (k / 8) (k % 8)) from if_pos h]
theorem rk_e {T E : EdT} {w : Nat → Nat → Int} {s : LabT} {k : Nat} (h : ¬ T (k / 8) (k % 8) = true) (he : E (k / 8) (k % 8) = true) : rk (fA T E w) s (k + 1) = rel (k / 8) (6 + k % 8) (w (k / 8) (k % 8)) (rk (fA T E w) s k) := by
  show (match fA T E w k with | none => rk (fA T E w) s k | some (u, v, l) => rel u v l (rk (fA T E w) s k)) = _
  rw [show fA T E w k = some (k / 8, 6 + k % 8, w (k / 8) (k % 8)) from (if_neg h).trans (if_pos he)]
theorem rk_n {T E : EdT} {w : Nat → Nat → Int} {s : LabT} {k : Nat} (h : ¬ T (k / 8) (k % 8) = true) (he : ¬ E (k / 8) (k % 8) = true) : rk (fA T E w) s (k + 1) = rk (fA T E w) s k := by
  show (match fA T E w k with | none => rk (fA T E w) s k | some (u, v, l) => rel u v l (rk (fA T E w) s k)) = _
  rw [show fA T E w k = none from (if_neg h).trans (if_neg he)]
/-- the sum of what is gained -/
def flq (F : Nat → Nat) : Nat → Nat → EdT → EdT
  | 0, s, T => stT T (F (6 + s)) s true
  | k + 1, s, T => if F (F (6 + s)) = 99 then stT T (F (6 + s)) s true else flq F k (F (F (6 + s)) - 6) (stT (stT T (F (6 + s)) s true) (F (6 + s)) (F (F (6 + s)) - 6) false)
theorem flq_fl {F : Nat → Nat} : ∀ n k s T, n ≤ k → CH F n s → flq F k s T = fl F n s T := by
  intro n
  induction n with
  | zero =>
    intro k s T _ hc
    have hc0 : F (F (6 + s)) = 99 := hc
    cases k with
    | zero => rfl
    | succ k => exact if_pos hc0
  | succ n ih =>
    intro k s T hk hc
    obtain ⟨s', hs', h1, h2⟩ := hc
    cases k with
    | zero => exact absurd hk (Nat.not_succ_le_zero _)
    | succ k =>
      show (if F (F (6 + s)) = 99 then stT T (F (6 + s)) s true else flq F k (F (F (6 + s)) - 6) (stT (stT T (F (6 + s)) s true) (F (6 + s)) (F (F (6 + s)) - 6) false)) = fl F n (F (F (6 + s)) - 6) (stT (stT T (F (6 + s)) s true) (F (6 + s)) (F (F (6 + s)) - 6) false)
      rw [if_neg (by omega)]
      exact ih k _ _ (by omega) (by rw [h1, Nat.add_sub_cancel_left]; exact h2)
def mst (E : EdT) (w : Nat → Nat → Int) (r nd : Nat) : Nat → EdT → Int
  | 0, _ => 0
  | f + 1, T => match bstO (fin_ T E w r nd) T r 8 with
    | none => 0
    | some s => (fin_ T E w r nd).1 (6 + s) + mst E w r nd f (flq (fin_ T E w r nd).2 6 s T)
theorem mst_none {E T : EdT} {w : Nat → Nat → Int} {r nd f : Nat} (h : bstO (fin_ T E w r nd) T r 8 = none) : mst E w r nd f T = 0 := by
  cases f with
  | zero => rfl
  | succ f =>
    show (match bstO (fin_ T E w r nd) T r 8 with | none => (0 : Int) | some s => (fin_ T E w r nd).1 (6 + s) + mst E w r nd f (flq (fin_ T E w r nd).2 6 s T)) = 0
    rw [h]
theorem mst_some {E T : EdT} {w : Nat → Nat → Int} {r nd f s : Nat} (h : bstO (fin_ T E w r nd) T r 8 = some s) : mst E w r nd (f + 1) T = (fin_ T E w r nd).1 (6 + s) + mst E w r nd f (flq (fin_ T E w r nd).2 6 s T) := by
  show (match bstO (fin_ T E w r nd) T r 8 with | none => (0 : Int) | some s => (fin_ T E w r nd).1 (6 + s) + mst E w r nd f (flq (fin_ T E w r nd).2 6 s T)) = _
  rw [h]
/-! the model's rows -/
def wF (n : Nat → Nat) (c : Nat → Nat → Nat) (b : Bool) : Nat → Nat → Int := fun d s => if b = true then 1000 else if d < n 0 ∧ s < n 1 then ((c 0 d * c 3 s : Nat) : Int) else 0
theorem wF_WB {n : Nat → Nat} {c : Nat → Nat → Nat} (hB : CB n c) (b : Bool) : WB (wF n c b) := by
  intro d s
  unfold wF
  split
  · exact ⟨by decide, by decide⟩
  · split
    · rename_i h
      have h1 := hB.2.2.2.1 d h.1
      have h2 := hB.2.2.2.2.1 s h.2
      have h3 : c 0 d * c 3 s ≤ 9 * 9 := Nat.mul_le_mul (by omega) (by omega)
      exact ⟨by omega, by omega⟩
    · exact ⟨by decide, by decide⟩
def eF (v : Nat) : Int32 := if v = 99 then -9 else nI (v - 6)
def eG (v : Nat) : Int32 := if v = 99 then -9 else nI v
def MEd (st : mSt) (E : EdT) : Prop := ∀ k, k < 48 → st.1 67 k = pI (E (k / 8) (k % 8) = true)
def MTk (st : mSt) (T : EdT) : Prop := ∀ k, k < 48 → st.1 68 k = pI (T (k / 8) (k % 8) = true)
def MHd (st : mSt) (T : EdT) : Prop := (∀ d, d < 6 → st.1 69 d = nI (dD T d)) ∧ ∀ s, s < 8 → st.1 70 s = nI (dS T s)
def MLb (st : mSt) (x : LabT) : Prop := (∀ d, d < 6 → st.1 71 d = iI (x.1 d) ∧ st.1 73 d = eF (x.2 d)) ∧ ∀ s, s < 8 → st.1 72 s = iI (x.1 (6 + s)) ∧ st.1 74 s = eG (x.2 (6 + s))
theorem MLb_S {st : mSt} {x : LabT} (h : MLb st x) {s d : Nat} {z : Int} (hd : d < 6) : MLb (mU (mU st.1 72 s (iI z)) 74 s (nI d), st.2) (upI x.1 (6 + s) z, updN x.2 (6 + s) d) := by
  refine ⟨fun d' hd' => ?_, fun s' hs' => ?_⟩
  · show st.1 71 d' = iI (upI x.1 (6 + s) z d') ∧ st.1 73 d' = eF (updN x.2 (6 + s) d d')
    rw [upI_n (by omega), updN_n (by omega)]
    exact h.1 d' hd'
  · show mU st.1 72 s (iI z) 72 s' = iI (upI x.1 (6 + s) z (6 + s')) ∧ mU (mU st.1 72 s (iI z)) 74 s (nI d) 74 s' = eG (updN x.2 (6 + s) d (6 + s'))
    by_cases e : s' = s
    · subst e
      rw [upI_s, updN_s]
      exact ⟨mU_at, mU_at.trans (if_neg (show ¬ d = 99 by omega)).symm⟩
    · rw [upI_n (by omega), updN_n (by omega)]
      exact ⟨(mU_row e).trans (h.2 s' hs').1, (mU_row e).trans (h.2 s' hs').2⟩
theorem MLb_D {st : mSt} {x : LabT} (h : MLb st x) {s d : Nat} {z : Int} (hd : d < 6) (hs : s < 8) : MLb (mU (mU st.1 71 d (iI z)) 73 d (nI s), st.2) (upI x.1 d z, updN x.2 d (6 + s)) := by
  refine ⟨fun d' hd' => ?_, fun s' hs' => ?_⟩
  · show mU st.1 71 d (iI z) 71 d' = iI (upI x.1 d z d') ∧ mU (mU st.1 71 d (iI z)) 73 d (nI s) 73 d' = eF (updN x.2 d (6 + s) d')
    by_cases e : d' = d
    · subst e
      rw [upI_s, updN_s]
      refine ⟨mU_at, mU_at.trans ?_⟩
      unfold eF
      rw [if_neg (show ¬ 6 + s = 99 by omega), Nat.add_sub_cancel_left]
    · rw [upI_n e, updN_n e]
      exact ⟨(mU_row e).trans (h.1 d' hd').1, (mU_row e).trans (h.1 d' hd').2⟩
  · show st.1 72 s' = iI (upI x.1 d z (6 + s')) ∧ st.1 74 s' = eG (updN x.2 d (6 + s) (6 + s'))
    rw [upI_n (by omega), updN_n (by omega)]
    exact h.2 s' hs'
/-- who may throw with what -/
def EN (n : Nat → Nat) (c : Nat → Nat → Nat) (u : Nat → Nat) : EdT := fun d s => decide (d < n 0 ∧ s < n 1 ∧ ((c 4 s = 0 ∨ c 4 s = c 2 d + 1) ∧ (u 5).testBit s = false ∧ (u (6 + d)).testBit s = false))
