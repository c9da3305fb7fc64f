/-! THE TEXT: what its bytes b 0 .. b (L - 1) say: tokens T 0, T 1, .. at the places ps 0, ps 1, ..; how items are read from them -/
def whF (P : Nat → Bool) (L : Nat) : Nat → Nat → Nat
  | 0, i => i
  | m + 1, i => if i < L ∧ P i = true then whF P L m (i + 1) else i
def wh (P : Nat → Bool) (L i : Nat) : Nat := whF P L (L - i) i
theorem wh_go {P : Nat → Bool} {L i : Nat} (h : i < L) (hp : P i = true) : wh P L i = wh P L (i + 1) := by
  unfold wh
  obtain ⟨m, hm⟩ : ∃ m, L - i = m + 1 := ⟨L - i - 1, by omega⟩
  rw [hm, show L - (i + 1) = m by omega]
  exact if_pos (show i < L ∧ P i = true from ⟨h, hp⟩)
theorem wh_no {P : Nat → Bool} {L i : Nat} (h : ¬ (i < L ∧ P i = true)) : wh P L i = i := by
  unfold wh
  cases L - i with
  | zero => rfl
  | succ m => exact if_neg h
theorem wh_ge (P : Nat → Bool) (L : Nat) : ∀ m i, L - i = m → i ≤ wh P L i := by
  intro m
  induction m with
  | zero => exact fun i h => Nat.le_of_eq (wh_no (fun e => absurd e.1 (by omega))).symm
  | succ m ih =>
    intro i h
    by_cases e : P i = true
    · rw [wh_go (by omega) e]
      have := ih (i + 1) (by omega)
      omega
    · exact Nat.le_of_eq (wh_no (fun e2 => e e2.2)).symm
theorem wh_le (P : Nat → Bool) (L : Nat) : ∀ m i, L - i = m → i ≤ L → wh P L i ≤ L := by
  intro m
  induction m with
  | zero => exact fun i h hi => by rw [wh_no (fun e => absurd e.1 (by omega))]; exact hi
  | succ m ih =>
    intro i h hi
    by_cases e : P i = true
    · rw [wh_go (by omega) e]
      exact ih (i + 1) (by omega) (by omega)
    · rw [wh_no (fun e2 => e e2.2)]
      exact hi
theorem wh_all (P : Nat → Bool) (L : Nat) : ∀ m i, L - i = m → ∀ j, i ≤ j → j < wh P L i → P j = true := by
  intro m
  induction m with
  | zero => exact fun i h j h1 h2 => absurd h2 (by rw [wh_no (fun e => absurd e.1 (by omega))]; omega)
  | succ m ih =>
    intro i h j h1 h2
    by_cases e : P i = true
    · rw [wh_go (by omega) e] at h2
      by_cases ej : j = i
      · rw [ej]
        exact e
      · exact ih (i + 1) (by omega) j (by omega) h2
    · rw [wh_no (fun e2 => e e2.2)] at h2
      omega
abbrev isLb (x : Nat) : Bool := decide (97 ≤ x ∧ x ≤ 122)
abbrev isGb (x : Nat) : Bool := decide (48 ≤ x ∧ x ≤ 57)
def blk (b : Nat → Nat) (j : Nat) : Bool := decide (b j = 32)
def ltr (b : Nat → Nat) (j : Nat) : Bool := decide (97 ≤ b j ∧ b j ≤ 122)
def dig (b : Nat → Nat) (j : Nat) : Bool := decide (48 ≤ b j ∧ b j ≤ 57)
theorem ltr_i {b : Nat → Nat} {j : Nat} : ltr b j = true ↔ 97 ≤ b j ∧ b j ≤ 122 := decide_eq_true_iff
theorem dig_i {b : Nat → Nat} {j : Nat} : dig b j = true ↔ 48 ≤ b j ∧ b j ≤ 57 := decide_eq_true_iff
theorem blk_i {b : Nat → Nat} {j : Nat} : blk b j = true ↔ b j = 32 := decide_eq_true_iff
def tend (b : Nat → Nat) (L i : Nat) : Nat := if ltr b i = true then wh (ltr b) L (i + 1) else if dig b i = true then wh (dig b) L (i + 1) else i + 1
def wdK : Nat → List Nat
  | 0 => [100, 105, 103, 103, 101, 114]
  | 1 => [115, 112, 97, 100, 101]
  | 2 => [121, 97, 114, 100]
  | 3 => [114, 105, 103, 104, 116]
  | _ => [108, 101, 102, 116]
def isW (b : Nat → Nat) (j i e : Nat) : Bool := decide (e - i = (wdK j).length ∧ ∀ k, k < (wdK j).length → b (i + k) = (wdK j).getD k 0)
theorem isW_i {b : Nat → Nat} {j i e : Nat} : isW b j i e = true ↔ e - i = (wdK j).length ∧ ∀ k, k < (wdK j).length → b (i + k) = (wdK j).getD k 0 := decide_eq_true_iff
def tokW (b : Nat → Nat) (i e : Nat) : Nat := if isW b 0 i e = true then 103 else if isW b 1 i e = true then 104 else if isW b 2 i e = true then 105 else if isW b 3 i e = true then 106 else if isW b 4 i e = true then 107 else 101
def tokN (b : Nat → Nat) (i e : Nat) : Nat := if e - i = 1 then b i - 48 else if 2 < e - i ∨ b i = 48 then 101 else (b i - 48) * 10 + (b (i + 1) - 48)
def tokO (b : Nat → Nat) (i e : Nat) : Nat := if dig b i = true then tokN b i e else if ltr b i = true then tokW b i e else if b i = 59 then 102 else 101
def skB (b : Nat → Nat) (L i : Nat) : Nat := wh (blk b) L i
def tk (b : Nat → Nat) (L i : Nat) : Nat := if i < L then tokO b i (tend b L i) else 100
def nxt (b : Nat → Nat) (L i : Nat) : Nat := if i < L then tend b L i else i
def ps (b : Nat → Nat) (L : Nat) : Nat → Nat
  | 0 => skB b L 0
  | k + 1 => skB b L (nxt b L (ps b L k))
def TT (b : Nat → Nat) (L k : Nat) : Nat := tk b L (ps b L k)
theorem tend_gt (b : Nat → Nat) (L i : Nat) : i < tend b L i := by
  unfold tend
  have h1 := wh_ge (ltr b) L _ (i + 1) rfl
  have h2 := wh_ge (dig b) L _ (i + 1) rfl
  split
  · omega
  · split <;> omega
theorem tend_le {b : Nat → Nat} {L i : Nat} (h : i < L) : tend b L i ≤ L := by
  unfold tend
  have h1 := wh_le (ltr b) L _ (i + 1) rfl h
  have h2 := wh_le (dig b) L _ (i + 1) rfl h
  split
  · omega
  · split <;> omega
theorem nxt_le {b : Nat → Nat} {L i : Nat} (h : i ≤ L) : nxt b L i ≤ L := by
  unfold nxt
  split
  · exact tend_le (by assumption)
  · exact h
theorem ps_le (b : Nat → Nat) (L : Nat) : ∀ k, ps b L k ≤ L := by
  intro k
  induction k with
  | zero => exact wh_le _ _ _ _ rfl (Nat.zero_le _)
  | succ k ih => exact wh_le _ _ _ _ rfl (nxt_le ih)
theorem ps_lt {b : Nat → Nat} {L k : Nat} (h : ps b L k < L) : ps b L k < ps b L (k + 1) := by
  have h1 := tend_gt b L (ps b L k)
  have h2 : nxt b L (ps b L k) ≤ ps b L (k + 1) := wh_ge _ _ _ _ rfl
  have h3 : nxt b L (ps b L k) = tend b L (ps b L k) := if_pos h
  omega
theorem ps_k (b : Nat → Nat) (L : Nat) : ∀ k, k ≤ ps b L k ∨ ps b L k = L := by
  intro k
  induction k with
  | zero => exact Or.inl (Nat.zero_le _)
  | succ k ih =>
    have h0 := ps_le b L k
    have h9 := ps_le b L (k + 1)
    by_cases e : ps b L k < L
    · have := ps_lt e
      omega
    · right
      have h2 : nxt b L (ps b L k) ≤ ps b L (k + 1) := wh_ge _ _ _ _ rfl
      have h3 : nxt b L (ps b L k) = ps b L k := if_neg e
      omega
theorem tokW_ge (b : Nat → Nat) (i e : Nat) : 101 ≤ tokW b i e ∧ tokW b i e ≤ 107 := by
  unfold tokW
  repeat' split
  all_goals exact ⟨by decide, by decide⟩
theorem tokN_r {b : Nat → Nat} {i e : Nat} (h : i < e) (hd : ∀ j, i ≤ j → j < e → dig b j = true) : tokN b i e ≤ 99 ∨ tokN b i e = 101 := by
  have h1 := dig_i.mp (hd i (Nat.le_refl _) h)
  unfold tokN
  split
  · left
    omega
  · split
    · exact Or.inr rfl
    · have h2 := dig_i.mp (hd (i + 1) (by omega) (by omega))
      left
      omega
theorem tend_dig {b : Nat → Nat} {L i : Nat} (h : dig b i = true) : tend b L i = wh (dig b) L (i + 1) ∧ ∀ j, i ≤ j → j < tend b L i → dig b j = true := by
  have h0 := dig_i.mp h
  have e : tend b L i = wh (dig b) L (i + 1) := (if_neg (fun e => by have := ltr_i.mp e; omega)).trans (if_pos h)
  refine ⟨e, fun j h1 h2 => ?_⟩
  by_cases ej : j = i
  · rw [ej]
    exact h
  · rw [e] at h2
    exact wh_all _ _ _ _ rfl j (by omega) h2
theorem tend_ltr {b : Nat → Nat} {L i : Nat} (h : ltr b i = true) : tend b L i = wh (ltr b) L (i + 1) ∧ ∀ j, i ≤ j → j < tend b L i → ltr b j = true := by
  have e : tend b L i = wh (ltr b) L (i + 1) := if_pos h
  refine ⟨e, fun j h1 h2 => ?_⟩
  by_cases ej : j = i
  · rw [ej]
    exact h
  · rw [e] at h2
    exact wh_all _ _ _ _ rfl j (by omega) h2
theorem tokO_r (b : Nat → Nat) (L i : Nat) : tokO b i (tend b L i) ≤ 107 ∧ tokO b i (tend b L i) ≠ 100 := by
  unfold tokO
  split
  · rename_i h
    rcases tokN_r (tend_gt b L i) (tend_dig (L := L) h).2 with h1 | h1 <;> omega
  · split
    · have := tokW_ge b i (tend b L i)
      omega
    · split <;> decide
theorem tk_r (b : Nat → Nat) (L i : Nat) : tk b L i ≤ 107 ∧ (tk b L i = 100 ↔ ¬ i < L) := by
  unfold tk
  split
  · rename_i h
    have := tokO_r b L i
    exact ⟨this.1, fun e => absurd e this.2, fun e => absurd h e⟩
  · rename_i h
    exact ⟨by decide, fun _ => h, fun _ => rfl⟩
theorem TT_r (b : Nat → Nat) (L k : Nat) : TT b L k ≤ 107 ∧ (TT b L k = 100 ↔ ps b L k = L) := by
  have h := tk_r b L (ps b L k)
  have h2 := ps_le b L k
  refine ⟨h.1, ?_⟩
  rw [show TT b L k = tk b L (ps b L k) from rfl, h.2]
  omega
theorem TT_k {b : Nat → Nat} {L k : Nat} (h : TT b L k ≠ 100) : k < L := by
  have h1 := (TT_r b L k).2
  have h2 := ps_k b L k
  have h3 := ps_le b L k
  have h4 : ps b L k ≠ L := fun e => h (h1.mpr e)
  omega
/-- a word's code, base 27, and a number's value, as they are gathered byte by byte -/
def cod (b : Nat → Nat) (i : Nat) : Nat → Nat
  | 0 => 0
  | k + 1 => 27 * cod b i k + (b (i + k) - 96)
def vl (b : Nat → Nat) (i : Nat) : Nat → Nat
  | 0 => 0
  | k + 1 => if 99 < vl b i k then vl b i k else 10 * vl b i k + (b (i + k) - 48)
def mean (x : Nat) : Nat := if x = 62321634 then 0 else if x = 10413149 then 1 else if x = 493294 then 2 else if x = 9748424 then 3 else if x = 240023 then 4 else 8
def srt (t : Nat) : Nat := if t < 100 then 6 else if t = 100 then 5 else if t = 101 then 8 else if t = 102 then 7 else t - 103
theorem cod_le {b : Nat → Nat} {i : Nat} : ∀ k, (∀ j, j < k → 97 ≤ b (i + j) ∧ b (i + j) ≤ 122) → cod b i k < 27 ^ k := by
  intro k
  induction k with
  | zero => exact fun _ => (show 0 < 1 by decide)
  | succ k ih =>
    intro h
    have h1 := ih (fun j hj => h j (by omega))
    have h2 := h k (by omega)
    show 27 * cod b i k + (b (i + k) - 96) < 27 ^ k * 27
    omega
theorem w_6 {b : Nat → Nat} {j i e : Nat} {a0 a1 a2 a3 a4 a5 : Nat} (hj : wdK j = [a0, a1, a2, a3, a4, a5]) : isW b j i e = true ↔ e - i = 6 ∧ b i = a0 ∧ b (i + 1) = a1 ∧ b (i + 2) = a2 ∧ b (i + 3) = a3 ∧ b (i + 4) = a4 ∧ b (i + 5) = a5 := by
  rw [isW_i, hj]
  constructor
  · exact fun h => ⟨h.1, h.2 0 (show 0 < 6 by decide), h.2 1 (show 1 < 6 by decide), h.2 2 (show 2 < 6 by decide), h.2 3 (show 3 < 6 by decide), h.2 4 (show 4 < 6 by decide), h.2 5 (show 5 < 6 by decide)⟩
  · rintro ⟨h, h0, h1, h2, h3, h4, h5⟩
    refine ⟨h, fun k hk => ?_⟩
    have hk6 : k < 6 := hk
    match k, hk6 with
    | 0, _ => exact h0
    | 1, _ => exact h1
    | 2, _ => exact h2
    | 3, _ => exact h3
    | 4, _ => exact h4
    | 5, _ => exact h5
theorem w_5 {b : Nat → Nat} {j i e : Nat} {a0 a1 a2 a3 a4 : Nat} (hj : wdK j = [a0, a1, a2, a3, a4]) : isW b j i e = true ↔ e - i = 5 ∧ b i = a0 ∧ b (i + 1) = a1 ∧ b (i + 2) = a2 ∧ b (i + 3) = a3 ∧ b (i + 4) = a4 := by
  rw [isW_i, hj]
  constructor
  · exact fun h => ⟨h.1, h.2 0 (show 0 < 5 by decide), h.2 1 (show 1 < 5 by decide), h.2 2 (show 2 < 5 by decide), h.2 3 (show 3 < 5 by decide), h.2 4 (show 4 < 5 by decide)⟩
  · rintro ⟨h, h0, h1, h2, h3, h4⟩
    refine ⟨h, fun k hk => ?_⟩
    have hk6 : k < 5 := hk
    match k, hk6 with
    | 0, _ => exact h0
    | 1, _ => exact h1
    | 2, _ => exact h2
    | 3, _ => exact h3
    | 4, _ => exact h4
theorem w_4 {b : Nat → Nat} {j i e : Nat} {a0 a1 a2 a3 : Nat} (hj : wdK j = [a0, a1, a2, a3]) : isW b j i e = true ↔ e - i = 4 ∧ b i = a0 ∧ b (i + 1) = a1 ∧ b (i + 2) = a2 ∧ b (i + 3) = a3 := by
  rw [isW_i, hj]
  constructor
  · exact fun h => ⟨h.1, h.2 0 (show 0 < 4 by decide), h.2 1 (show 1 < 4 by decide), h.2 2 (show 2 < 4 by decide), h.2 3 (show 3 < 4 by decide)⟩
  · rintro ⟨h, h0, h1, h2, h3⟩
    refine ⟨h, fun k hk => ?_⟩
    have hk6 : k < 4 := hk
    match k, hk6 with
    | 0, _ => exact h0
    | 1, _ => exact h1
    | 2, _ => exact h2
    | 3, _ => exact h3
theorem cod_s (b : Nat → Nat) (i k : Nat) : cod b i (k + 1) = 27 * cod b i k + (b (i + k) - 96) := rfl
theorem cod_ge {b : Nat → Nat} {i : Nat} : ∀ k, (∀ j, j < k + 1 → 97 ≤ b (i + j) ∧ b (i + j) ≤ 122) → 27 ^ k ≤ cod b i (k + 1) := by
  intro k
  induction k with
  | zero =>
    intro h
    have h2 := h 0 (by decide)
    show 1 ≤ 27 * 0 + (b (i + 0) - 96)
    omega
  | succ k ih =>
    intro h
    have h1 := ih (fun j hj => h j (by omega))
    have h2 := h (k + 1) (by omega)
    show 27 ^ k * 27 ≤ 27 * cod b i (k + 1) + (b (i + (k + 1)) - 96)
    omega
theorem stp27 {x y K : Nat} (Q r : Nat) (h : 97 ≤ y ∧ y ≤ 122) (hK : 27 * Q + r = K) (h1 : 1 ≤ r) (h2 : r ≤ 26) : 27 * x + (y - 96) = K ↔ x = Q ∧ y = r + 96 := by omega
theorem cod_no {b : Nat → Nat} {i k : Nat} (N K : Nat) (hl : ∀ j, j < k → 97 ≤ b (i + j) ∧ b (i + j) ≤ 122) (hne : k ≠ N + 1) (h1 : 27 ^ N ≤ K) (h2 : K < 27 ^ (N + 1)) : cod b i k ≠ K := by
  intro e
  by_cases h : k ≤ N
  · have h3 := cod_le (b := b) (i := i) k hl
    have h4 : 27 ^ k ≤ 27 ^ N := Nat.pow_le_pow_right (by decide) h
    omega
  · obtain ⟨q, rfl⟩ : ∃ q, k = q + 1 := ⟨k - 1, by omega⟩
    have h3 := cod_ge (b := b) (i := i) q hl
    have h4 : 27 ^ (N + 1) ≤ 27 ^ q := Nat.pow_le_pow_right (by decide) (by omega)
    omega
theorem cod_dig {b : Nat → Nat} {i k : Nat} (hl : ∀ j, j < k → 97 ≤ b (i + j) ∧ b (i + j) ≤ 122) : isW b 0 i (i + k) = true ↔ cod b i k = 62321634 := by
  rw [w_6 (show wdK 0 = _ from rfl), Nat.add_sub_cancel_left]
  by_cases e : k = 6
  · subst e
    rw [cod_s, stp27 2308208 18 (hl 5 (by decide)) rfl (by decide) (by decide)]
    rw [cod_s, stp27 85489 5 (hl 4 (by decide)) rfl (by decide) (by decide)]
    rw [cod_s, stp27 3166 7 (hl 3 (by decide)) rfl (by decide) (by decide)]
    rw [cod_s, stp27 117 7 (hl 2 (by decide)) rfl (by decide) (by decide)]
    rw [cod_s, stp27 4 9 (hl 1 (by decide)) rfl (by decide) (by decide)]
    rw [cod_s, stp27 0 4 (hl 0 (by decide)) rfl (by decide) (by decide)]
    exact ⟨fun ⟨_, h0, h1, h2, h3, h4, h5⟩ => ⟨⟨⟨⟨⟨⟨rfl, h0⟩, h1⟩, h2⟩, h3⟩, h4⟩, h5⟩, fun h => ⟨rfl, h.1.1.1.1.1.2, h.1.1.1.1.2, h.1.1.1.2, h.1.1.2, h.1.2, h.2⟩⟩
  · exact ⟨fun h => absurd h.1 e, fun h => absurd h (cod_no 5 62321634 hl e (by decide) (by decide))⟩
theorem cod_spa {b : Nat → Nat} {i k : Nat} (hl : ∀ j, j < k → 97 ≤ b (i + j) ∧ b (i + j) ≤ 122) : isW b 1 i (i + k) = true ↔ cod b i k = 10413149 := by
  rw [w_5 (show wdK 1 = _ from rfl), Nat.add_sub_cancel_left]
  by_cases e : k = 5
  · subst e
    rw [cod_s, stp27 385672 5 (hl 4 (by decide)) rfl (by decide) (by decide)]
    rw [cod_s, stp27 14284 4 (hl 3 (by decide)) rfl (by decide) (by decide)]
    rw [cod_s, stp27 529 1 (hl 2 (by decide)) rfl (by decide) (by decide)]
    rw [cod_s, stp27 19 16 (hl 1 (by decide)) rfl (by decide) (by decide)]
    rw [cod_s, stp27 0 19 (hl 0 (by decide)) rfl (by decide) (by decide)]
    exact ⟨fun ⟨_, h0, h1, h2, h3, h4⟩ => ⟨⟨⟨⟨⟨rfl, h0⟩, h1⟩, h2⟩, h3⟩, h4⟩, fun h => ⟨rfl, h.1.1.1.1.2, h.1.1.1.2, h.1.1.2, h.1.2, h.2⟩⟩
  · exact ⟨fun h => absurd h.1 e, fun h => absurd h (cod_no 4 10413149 hl e (by decide) (by decide))⟩
theorem cod_yar {b : Nat → Nat} {i k : Nat} (hl : ∀ j, j < k → 97 ≤ b (i + j) ∧ b (i + j) ≤ 122) : isW b 2 i (i + k) = true ↔ cod b i k = 493294 := by
  rw [w_4 (show wdK 2 = _ from rfl), Nat.add_sub_cancel_left]
  by_cases e : k = 4
  · subst e
    rw [cod_s, stp27 18270 4 (hl 3 (by decide)) rfl (by decide) (by decide)]
    rw [cod_s, stp27 676 18 (hl 2 (by decide)) rfl (by decide) (by decide)]
    rw [cod_s, stp27 25 1 (hl 1 (by decide)) rfl (by decide) (by decide)]
    rw [cod_s, stp27 0 25 (hl 0 (by decide)) rfl (by decide) (by decide)]
    exact ⟨fun ⟨_, h0, h1, h2, h3⟩ => ⟨⟨⟨⟨rfl, h0⟩, h1⟩, h2⟩, h3⟩, fun h => ⟨rfl, h.1.1.1.2, h.1.1.2, h.1.2, h.2⟩⟩
  · exact ⟨fun h => absurd h.1 e, fun h => absurd h (cod_no 3 493294 hl e (by decide) (by decide))⟩
theorem cod_rig {b : Nat → Nat} {i k : Nat} (hl : ∀ j, j < k → 97 ≤ b (i + j) ∧ b (i + j) ≤ 122) : isW b 3 i (i + k) = true ↔ cod b i k = 9748424 := by
  rw [w_5 (show wdK 3 = _ from rfl), Nat.add_sub_cancel_left]
  by_cases e : k = 5
  · subst e
    rw [cod_s, stp27 361052 20 (hl 4 (by decide)) rfl (by decide) (by decide)]
    rw [cod_s, stp27 13372 8 (hl 3 (by decide)) rfl (by decide) (by decide)]
    rw [cod_s, stp27 495 7 (hl 2 (by decide)) rfl (by decide) (by decide)]
    rw [cod_s, stp27 18 9 (hl 1 (by decide)) rfl (by decide) (by decide)]
    rw [cod_s, stp27 0 18 (hl 0 (by decide)) rfl (by decide) (by decide)]
    exact ⟨fun ⟨_, h0, h1, h2, h3, h4⟩ => ⟨⟨⟨⟨⟨rfl, h0⟩, h1⟩, h2⟩, h3⟩, h4⟩, fun h => ⟨rfl, h.1.1.1.1.2, h.1.1.1.2, h.1.1.2, h.1.2, h.2⟩⟩
  · exact ⟨fun h => absurd h.1 e, fun h => absurd h (cod_no 4 9748424 hl e (by decide) (by decide))⟩
theorem cod_lef {b : Nat → Nat} {i k : Nat} (hl : ∀ j, j < k → 97 ≤ b (i + j) ∧ b (i + j) ≤ 122) : isW b 4 i (i + k) = true ↔ cod b i k = 240023 := by
  rw [w_4 (show wdK 4 = _ from rfl), Nat.add_sub_cancel_left]
  by_cases e : k = 4
  · subst e
    rw [cod_s, stp27 8889 20 (hl 3 (by decide)) rfl (by decide) (by decide)]
    rw [cod_s, stp27 329 6 (hl 2 (by decide)) rfl (by decide) (by decide)]
    rw [cod_s, stp27 12 5 (hl 1 (by decide)) rfl (by decide) (by decide)]
    rw [cod_s, stp27 0 12 (hl 0 (by decide)) rfl (by decide) (by decide)]
    exact ⟨fun ⟨_, h0, h1, h2, h3⟩ => ⟨⟨⟨⟨rfl, h0⟩, h1⟩, h2⟩, h3⟩, fun h => ⟨rfl, h.1.1.1.2, h.1.1.2, h.1.2, h.2⟩⟩
  · exact ⟨fun h => absurd h.1 e, fun h => absurd h (cod_no 3 240023 hl e (by decide) (by decide))⟩
theorem isW_len {b : Nat → Nat} {j i e : Nat} (h : isW b j i e = true) : e - i ≤ 6 := by
  have := (isW_i.mp h).1
  have h2 : (wdK j).length ≤ 6 := by
    unfold wdK
    split <;> decide
  omega
theorem tokW_mean {b : Nat → Nat} {i k : Nat} (hl : ∀ j, j < k → 97 ≤ b (i + j) ∧ b (i + j) ≤ 122) : srt (tokW b i (i + k)) = mean (if 6 < k then 0 else cod b i k) := by
  by_cases h6 : 6 < k
  · rw [if_pos h6]
    have hn : ∀ j, ¬ isW b j i (i + k) = true := fun j h => by
      have := isW_len h
      omega
    rw [show tokW b i (i + k) = 101 from (if_neg (hn 0)).trans ((if_neg (hn 1)).trans ((if_neg (hn 2)).trans ((if_neg (hn 3)).trans (if_neg (hn 4)))))]
    rfl
  · rw [if_neg h6]
    have c0 : isW b 0 i (i + k) = true ↔ cod b i k = 62321634 := cod_dig hl
    have c1 : isW b 1 i (i + k) = true ↔ cod b i k = 10413149 := cod_spa hl
    have c2 : isW b 2 i (i + k) = true ↔ cod b i k = 493294 := cod_yar hl
    have c3 : isW b 3 i (i + k) = true ↔ cod b i k = 9748424 := cod_rig hl
    have c4 : isW b 4 i (i + k) = true ↔ cod b i k = 240023 := cod_lef hl
    unfold tokW mean
    by_cases h0 : isW b 0 i (i + k) = true
    · rw [if_pos h0, if_pos (c0.mp h0)]
      rfl
    rw [if_neg h0, if_neg (fun e => h0 (c0.mpr e))]
    by_cases h1 : isW b 1 i (i + k) = true
    · rw [if_pos h1, if_pos (c1.mp h1)]
      rfl
    rw [if_neg h1, if_neg (fun e => h1 (c1.mpr e))]
    by_cases h2 : isW b 2 i (i + k) = true
    · rw [if_pos h2, if_pos (c2.mp h2)]
      rfl
    rw [if_neg h2, if_neg (fun e => h2 (c2.mpr e))]
    by_cases h3 : isW b 3 i (i + k) = true
    · rw [if_pos h3, if_pos (c3.mp h3)]
      rfl
    rw [if_neg h3, if_neg (fun e => h3 (c3.mpr e))]
    by_cases h4 : isW b 4 i (i + k) = true
    · rw [if_pos h4, if_pos (c4.mp h4)]
      rfl
    rw [if_neg h4, if_neg (fun e => h4 (c4.mpr e))]
    rfl
theorem vl_le {b : Nat → Nat} {i : Nat} : ∀ k, (∀ j, j < k → 48 ≤ b (i + j) ∧ b (i + j) ≤ 57) → vl b i k ≤ 999 := by
  intro k
  induction k with
  | zero => exact fun _ => (show 0 ≤ 999 by decide)
  | succ k ih =>
    intro h
    have h1 := ih (fun j hj => h j (by omega))
    have h2 := h k (by omega)
    show (if 99 < vl b i k then vl b i k else 10 * vl b i k + (b (i + k) - 48)) ≤ 999
    split <;> omega
theorem vl_3 {b : Nat → Nat} {i : Nat} (h0 : 49 ≤ b i) : ∀ k, 99 < vl b i (k + 3) := by
  intro k
  induction k with
  | zero =>
    have e1 : vl b i 1 = 10 * 0 + (b (i + 0) - 48) := if_neg (show ¬ 99 < 0 by decide)
    have e2 : vl b i 2 = if 99 < vl b i 1 then vl b i 1 else 10 * vl b i 1 + (b (i + 1) - 48) := rfl
    have e3 : vl b i 3 = if 99 < vl b i 2 then vl b i 2 else 10 * vl b i 2 + (b (i + 2) - 48) := rfl
    rw [Nat.add_zero] at e1
    show 99 < vl b i 3
    rw [e3]
    split
    · assumption
    · rename_i h
      rw [e2] at h ⊢
      split
      · rename_i h5
        rw [if_pos h5] at h
        omega
      · rename_i h5
        rw [if_neg h5] at h
        omega
  | succ k ih =>
    show 99 < (if 99 < vl b i (k + 3) then vl b i (k + 3) else _)
    rw [if_pos ih]
    exact ih
theorem tokN_vl {b : Nat → Nat} {i k : Nat} (hk : 1 ≤ k) (hd : ∀ j, j < k → 48 ≤ b (i + j) ∧ b (i + j) ≤ 57) : srt (tokN b i (i + k)) = (if 99 < vl b i k ∨ (b i = 48 ∧ 1 < k) then 8 else 6) ∧ (tokN b i (i + k) < 100 → vl b i k = tokN b i (i + k)) := by
  have e : i + k - i = k := by omega
  have h0 := hd 0 (by omega)
  rw [Nat.add_zero] at h0
  have e1 : vl b i 1 = 10 * 0 + (b (i + 0) - 48) := if_neg (show ¬ 99 < 0 by decide)
  rw [Nat.add_zero] at e1
  unfold tokN
  rw [e]
  by_cases k1 : k = 1
  · rw [if_pos k1, if_neg (by rw [k1]; omega), k1]
    exact ⟨if_pos (by omega), fun _ => by omega⟩
  rw [if_neg k1]
  by_cases k2 : k = 2
  · have h1 := hd 1 (by omega)
    have e2 : vl b i 2 = if 99 < vl b i 1 then vl b i 1 else 10 * vl b i 1 + (b (i + 1) - 48) := rfl
    rw [if_neg (by omega)] at e2
    by_cases z : b i = 48
    · rw [if_pos (Or.inr z), if_pos (Or.inr ⟨z, by omega⟩)]
      exact ⟨rfl, fun h => absurd h (by decide)⟩
    · rw [if_neg (by omega), if_neg (by rw [k2]; omega), k2]
      exact ⟨if_pos (by omega), fun _ => by omega⟩
  · rw [if_pos (by omega)]
    obtain ⟨q, rfl⟩ : ∃ q, k = q + 3 := ⟨k - 3, by omega⟩
    by_cases z : b i = 48
    · rw [if_pos (Or.inr ⟨z, by omega⟩)]
      exact ⟨rfl, fun h => absurd h (by decide)⟩
    · rw [if_pos (Or.inl (vl_3 (by omega) q))]
      exact ⟨rfl, fun h => absurd h (by decide)⟩
