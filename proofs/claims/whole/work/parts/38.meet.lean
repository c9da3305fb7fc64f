/-! MEETING: two that dig from both ends -/
def cl (c : Nat → Nat → Nat) (y : Nat) : Nat := c 5 y * c 6 y
def lf (P : Nat → Nat) (al x y k : Nat) : Nat := min (P (k + 1)) (al - y) - max (P k) x
def dgt (a p b q t : Nat) : Nat := a * (t / p) + b * (t / q)
def YO (c : Nat → Nat → Nat) (m d y : Nat) : Prop := y < m ∧ sm (cl c) y ≤ d ∧ d < sm (cl c) (y + 1)
def MTt (al a p b q t : Nat) : Prop := 1 ≤ t ∧ al ≤ dgt a p b q t ∧ dgt a p b q (t - 1) < al
def skt (a p t : Nat) : Nat := if t % p = 0 then a else 0
def fst_ (al a p b q t : Nat) : Nat := a * ((t - 1) / p) + min (skt a p t) (al - a * ((t - 1) / p) - b * ((t - 1) / q))
def plc (al a p b q t : Nat) : Nat := if al - a * ((t - 1) / p) - b * ((t - 1) / q) ≤ skt a p t then al - b * ((t - 1) / q) - 1 else fst_ al a p b q t
theorem sm_mono {f : Nat → Nat} {i : Nat} : ∀ j, i ≤ j → sm f i ≤ sm f j := by
  intro j
  induction j with
  | zero =>
    intro h
    rw [show i = 0 by omega]
    exact Nat.le_refl _
  | succ j ih =>
    intro h
    by_cases e : i = j + 1
    · rw [e]
      exact Nat.le_refl _
    · have := ih (by omega)
      show sm f i ≤ sm f j + f j
      omega
theorem YO_un {c : Nat → Nat → Nat} {m d y z : Nat} (h : YO c m d y) (h' : YO c m d z) : y = z := by
  obtain ⟨h1, h2, h3⟩ := h
  obtain ⟨g1, g2, g3⟩ := h'
  by_cases e : y + 1 ≤ z
  · have := sm_mono (f := cl c) z e
    omega
  · by_cases e2 : z + 1 ≤ y
    · have := sm_mono (f := cl c) y e2
      omega
    · omega
theorem dgt_mono {a p b q t t' : Nat} (h : t ≤ t') : dgt a p b q t ≤ dgt a p b q t' := by
  unfold dgt
  have h1 : a * (t / p) ≤ a * (t' / p) := Nat.mul_le_mul_left _ (Nat.div_le_div_right h)
  have h2 : b * (t / q) ≤ b * (t' / q) := Nat.mul_le_mul_left _ (Nat.div_le_div_right h)
  omega
theorem MTt_un {al a p b q t t' : Nat} (h : MTt al a p b q t) (h' : MTt al a p b q t') : t = t' := by
  obtain ⟨h1, h2, h3⟩ := h
  obtain ⟨g1, g2, g3⟩ := h'
  by_cases e : t ≤ t' - 1
  · have := dgt_mono (a := a) (p := p) (b := b) (q := q) e
    omega
  · by_cases e2 : t' ≤ t - 1
    · have := dgt_mono (a := a) (p := p) (b := b) (q := q) e2
      omega
    · omega
theorem dgt_bd {a p b q t B : Nat} (ha : a ≤ 99) (hb : b ≤ 99) (ht : t ≤ B) : a * (t / p) ≤ 99 * B ∧ b * (t / q) ≤ 99 * B := ⟨Nat.mul_le_mul ha (Nat.le_trans (Nat.div_le_self _ _) ht), Nat.mul_le_mul hb (Nat.le_trans (Nat.div_le_self _ _) ht)⟩
theorem cl_bd {n : Nat → Nat} {c : Nat → Nat → Nat} (hB : CB n c) {y : Nat} (hy : y < n 2) : 1 ≤ cl c y ∧ cl c y ≤ 891 := by
  have h := hB.2.2.2.2.2 y hy
  refine ⟨Nat.mul_pos (by omega) (by omega), ?_⟩
  have : c 5 y * c 6 y ≤ 99 * 9 := Nat.mul_le_mul (by omega) (by omega)
  exact this
theorem all_bd {n : Nat → Nat} {c : Nat → Nat → Nat} (hB : CB n c) : ∀ y, y ≤ n 2 → sm (cl c) y ≤ 891 * y ∧ (0 < y → 1 ≤ sm (cl c) y) := by
  intro y
  induction y with
  | zero => exact fun _ => ⟨Nat.le_refl _, fun h => absurd h (Nat.lt_irrefl _)⟩
  | succ y ih =>
    intro hy
    have h1 := ih (by omega)
    have h2 := cl_bd hB (show y < n 2 by omega)
    show sm (cl c) y + cl c y ≤ _ ∧ (_ → 1 ≤ sm (cl c) y + cl c y)
    omega
theorem sz_half {s s' h X : Nat} (h1 : 2 * s' ≤ s) (h2 : s * 2 ^ h < X) : s' * 2 ^ (h + 1) < X := by
  have h3 : s' * 2 ^ (h + 1) = 2 * s' * 2 ^ h := by rw [Nat.pow_succ, Nat.mul_comm (2 ^ h) 2, ← Nat.mul_assoc, Nat.mul_comm s' 2]
  rw [h3]
  exact Nat.lt_of_le_of_lt (Nat.mul_le_mul_right _ h1) h2
theorem high_ok {al a p b q : Nat} (ha : 1 ≤ a) (hp : 1 ≤ p) : al ≤ dgt a p b q ((al / a + 1) * p) := by
  unfold dgt
  rw [Nat.mul_div_cancel _ hp]
  have := Nat.lt_mul_div_succ al (show 0 < a from ha)
  omega
theorem high_bd {al a p : Nat} (hal : al ≤ 7128) (hp : p ≤ 99) : (al / a + 1) * p ≤ 705771 := by
  have h1 : al / a ≤ al := Nat.div_le_self _ _
  have h2 : (al / a + 1) * p ≤ 7129 * 99 := Nat.mul_le_mul (by omega) hp
  exact h2
theorem dgt_0 {a p b q : Nat} : dgt a p b q 0 = 0 := by
  unfold dgt
  rw [Nat.zero_div, Nat.zero_div, Nat.mul_zero, Nat.mul_zero]
/-! strokes -/
theorem strA {P : Nat → Nat} (hm : ∀ i j, i ≤ j → P i ≤ P j) {al x y am g k v : Nat} (hg : g ≤ am) (hgx : x + g + y ≤ al) (hpre : g = am ∨ min (P k) (al - y) ≤ x + g) (hv : v = min (lf P al (x + g) y k) (am - g)) :
    x + (g + v) + y ≤ al ∧ (g + v = am ∨ min (P (k + 1)) (al - y) ≤ x + (g + v)) ∧ (∀ j, lf P al (x + (g + v)) y j = if j = k then lf P al (x + g) y k - v else lf P al (x + g) y j) ∧ (0 < v → P k ≤ x + (g + v) - 1 ∧ x + (g + v) - 1 < P (k + 1)) ∧ g + v ≤ am := by
  have h0 := hm k (k + 1) (by omega)
  unfold lf at hv ⊢
  refine ⟨by omega, by omega, fun j => ?_, by omega, by omega⟩
  by_cases e : j = k
  · subst e
    rw [if_pos rfl]
    omega
  · rw [if_neg e]
    by_cases e2 : j < k
    · have := hm (j + 1) k (by omega)
      omega
    · have := hm (k + 1) j (by omega)
      omega
theorem strB {P : Nat → Nat} (hm : ∀ i j, i ≤ j → P i ≤ P j) {al x y am g z v : Nat} (hg : g ≤ am) (hgx : x + (y + g) ≤ al) (hpre : g = am ∨ al - (y + g) ≤ max (P (z + 1)) x) (hv : v = min (lf P al x (y + g) z) (am - g)) :
    x + (y + (g + v)) ≤ al ∧ (g + v = am ∨ al - (y + (g + v)) ≤ max (P z) x) ∧ (∀ j, lf P al x (y + (g + v)) j = if j = z then lf P al x (y + g) z - v else lf P al x (y + g) j) ∧ (0 < v → P z ≤ al - (y + (g + v)) ∧ al - (y + (g + v)) < P (z + 1)) ∧ g + v ≤ am := by
  have h0 := hm z (z + 1) (by omega)
  unfold lf at hv ⊢
  refine ⟨by omega, by omega, fun j => ?_, by omega, by omega⟩
  by_cases e : j = z
  · subst e
    rw [if_pos rfl]
    omega
  · rw [if_neg e]
    by_cases e2 : j < z
    · have := hm (j + 1) z (by omega)
      omega
    · have := hm (z + 1) j (by omega)
      omega
theorem sm_lf {P : Nat → Nat} (hm : ∀ i j, i ≤ j → P i ≤ P j) (h0 : P 0 = 0) {al x y : Nat} (hxy : x + y ≤ al) : ∀ k, sm (lf P al x y) k = max (min (P k) (al - y)) x - x := by
  intro k
  induction k with
  | zero =>
    show 0 = _
    omega
  | succ k ih =>
    have h1 := hm k (k + 1) (by omega)
    show sm (lf P al x y) k + lf P al x y k = _
    rw [ih]
    unfold lf
    omega
theorem lf_0 {P : Nat → Nat} (hm : ∀ i j, i ≤ j → P i ≤ P j) {al m k : Nat} (hk : k < m) (hP : P m = al) : lf P al 0 0 k = P (k + 1) - P k := by
  have h1 := hm (k + 1) m (by omega)
  have h2 := hm k (k + 1) (by omega)
  unfold lf
  omega
/-! the beats -/
theorem div_at {p i t : Nat} (h1 : p * i < t) (h2 : t ≤ p * i + p) : (t - 1) / p = i := by
  apply Nat.div_eq_of_lt_le
  · rw [Nat.mul_comm]
    omega
  · rw [Nat.add_mul, Nat.one_mul, Nat.mul_comm]
    omega
theorem div_on {p i t : Nat} (hp : 0 < p) (h : t = p * i + p) : t / p = i + 1 := by
  rw [h, ← Nat.mul_succ, Nat.mul_div_cancel_left _ hp]
theorem div_off {p i t : Nat} (h1 : p * i ≤ t) (h2 : t < p * i + p) : t / p = i := by
  apply Nat.div_eq_of_lt_le
  · rw [Nat.mul_comm]
    exact h1
  · rw [Nat.add_mul, Nat.one_mul, Nat.mul_comm]
    exact h2
theorem skt_on {a p i t : Nat} (h : t = p * i + p) : skt a p t = a := by
  unfold skt
  rw [h, ← Nat.mul_succ, Nat.mul_mod_right, if_pos rfl]
theorem skt_off {a p i t : Nat} (h1 : p * i < t) (h2 : t < p * i + p) : skt a p t = 0 := by
  unfold skt
  rw [if_neg]
  intro h
  have h3 := Nat.div_add_mod t p
  rw [h, div_off (Nat.le_of_lt h1) h2] at h3
  omega
/-- what stands at a beat, from the strokes ahead of it -/
theorem beat_at {al a p b q i j t : Nat} (h1 : p * i < t) (h2 : t ≤ p * i + p) (h3 : q * j < t) (h4 : t ≤ q * j + q) : dgt a p b q (t - 1) = a * i + b * j ∧ fst_ al a p b q t = a * i + min (skt a p t) (al - a * i - b * j) ∧ plc al a p b q t = (if al - a * i - b * j ≤ skt a p t then al - b * j - 1 else a * i + min (skt a p t) (al - a * i - b * j)) := by
  have e1 := div_at h1 h2
  have e2 := div_at h3 h4
  unfold plc fst_ dgt
  rw [e1, e2]
  exact ⟨rfl, rfl, rfl⟩
theorem dgt_at {a p b q t i j : Nat} (h1 : t / p = i) (h2 : t / q = j) : dgt a p b q t = a * i + b * j := by
  unfold dgt
  rw [h1, h2]
def okM (a p b q w : Int32) : Prop := (1 ≤ a ∧ a ≤ 99) ∧ (1 ≤ p ∧ p ≤ 99) ∧ (1 ≤ b ∧ b ≤ 99) ∧ (1 ≤ q ∧ q ≤ 99) ∧ (0 ≤ w ∧ w ≤ 2)
def MGs (n : Nat → Nat) (c : Nat → Nat → Nat) (a p b q w r : Int32) : Prop := (¬ okM a p b q w → r = -1) ∧ (okM a p b q w → n 2 = 0 → r = -9) ∧ (okM a p b q w → n 2 ≠ 0 → ∃ t y, MTt (sm (cl c) (n 2)) a.toNatClampNeg p.toNatClampNeg b.toNatClampNeg q.toNatClampNeg t ∧ YO c (n 2) (plc (sm (cl c) (n 2)) a.toNatClampNeg p.toNatClampNeg b.toNatClampNeg q.toNatClampNeg t) y ∧ r = (if w = 0 then nI t else if w = 1 then nI y else nI (fst_ (sm (cl c) (n 2)) a.toNatClampNeg p.toNatClampNeg b.toNatClampNeg q.toNatClampNeg t)))
theorem MGs_un {n : Nat → Nat} {c : Nat → Nat → Nat} {a p b q w r r' : Int32} (h : MGs n c a p b q w r) (h' : MGs n c a p b q w r') : r = r' := by
  by_cases hok : okM a p b q w
  · by_cases h0 : n 2 = 0
    · rw [h.2.1 hok h0, h'.2.1 hok h0]
    · obtain ⟨t, y, h1, h2, h3⟩ := h.2.2 hok h0
      obtain ⟨t', y', g1, g2, g3⟩ := h'.2.2 hok h0
      obtain rfl := MTt_un h1 g1
      obtain rfl := YO_un h2 g2
      rw [h3, g3]
  · rw [h.1 hok, h'.1 hok]
