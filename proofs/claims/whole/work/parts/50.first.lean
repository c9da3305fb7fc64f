/-! HOW IT BEGINS: the first round that leaves what is needed -/
theorem full_ex {E : EdT} {r nd : Nat} (hnd : nd ≤ 6) (hE : ∀ d s, d < 6 → s < 8 → E d s = true → d < nd) (hh : hall E r nd) : ∀ f (T : EdT), 48 ≤ sm (dD T) 6 + f → VAL E T r nd → ∃ T', VAL E T' r nd ∧ ∀ d, d < nd → dD T' d = r := by
  intro f
  induction f with
  | zero =>
    intro T hm hV
    obtain ⟨h0, h1⟩ := long_step hnd hE hV
    rcases e : bstO (fin_ T E wP r nd) T r 8 with _ | g
    · have h2 := (h0 e).mpr hh
      exact ⟨T, hV, (full_iff hnd hV.2.1 (fun d hd hn => sm_zero 8 (fun s hs => if_neg (fun e9 => absurd (hE d s hd hs (hV.1 d s hd hs e9)) (by omega))))).1 h2⟩
    · have h3 := h1 g e
      have h4 := sum_48 (flq (fin_ T E wP r nd).2 6 g T)
      omega
  | succ f ih =>
    intro T hm hV
    obtain ⟨h0, h1⟩ := long_step hnd hE hV
    rcases e : bstO (fin_ T E wP r nd) T r 8 with _ | g
    · have h2 := (h0 e).mpr hh
      exact ⟨T, hV, (full_iff hnd hV.2.1 (fun d hd hn => sm_zero 8 (fun s hs => if_neg (fun e9 => absurd (hE d s hd hs (hV.1 d s hd hs e9)) (by omega))))).1 h2⟩
    · obtain ⟨-, h3, h4⟩ := h1 g e
      exact ih _ (by omega) h3
/-- the edges without a round -/
def Em (E : EdT) (ρ : Nat → Nat) (nd : Nat) : EdT := fun d s => E d s && !(decide (d < nd) && decide (s = ρ d))
theorem Em_iff {E : EdT} {ρ : Nat → Nat} {nd d s : Nat} : Em E ρ nd d s = true ↔ E d s = true ∧ ¬ (d < nd ∧ s = ρ d) := by
  unfold Em
  by_cases h1 : d < nd <;> by_cases h2 : s = ρ d <;> simp [h1, h2]
theorem Em_cong {E : EdT} {ρ ρ' : Nat → Nat} {nd : Nat} (h : ∀ d, d < nd → ρ d = ρ' d) : Em E ρ nd = Em E ρ' nd := by
  funext d s
  unfold Em
  by_cases h1 : d < nd
  · rw [h d h1]
  · rw [decide_eq_false h1, Bool.false_and, Bool.false_and]
def LVS (E : EdT) (ρ : Nat → Nat) (r nd : Nat) : Prop := r = 0 ∨ hallB (Em E ρ nd) r nd = true
/-- a round that may begin R rounds -/
def OKR (E : EdT) (nd R : Nat) (ρ : Nat → Nat) : Prop := (∀ d, d < nd → ρ d < 8 ∧ E d (ρ d) = true) ∧ (∀ d e, d < nd → e < d → ρ e ≠ ρ d) ∧ LVS E ρ (R - 1) nd
theorem OKR_cong {E : EdT} {nd R : Nat} {ρ ρ' : Nat → Nat} (h : ∀ d, d < nd → ρ d = ρ' d) (hk : OKR E nd R ρ) : OKR E nd R ρ' := by
  obtain ⟨h1, h2, h3⟩ := hk
  refine ⟨fun d hd => by rw [← h d hd]; exact h1 d hd, fun d e hd he => by rw [← h d hd, ← h e (by omega)]; exact h2 d e hd he, ?_⟩
  unfold LVS
  rw [← Em_cong h]
  exact h3
def fstB (p : Nat → Bool) : Nat → Nat
  | 0 => 0
  | k + 1 => if hasB p k = true then fstB p k else k
theorem fstB_spec {p : Nat → Bool} : ∀ k, hasB p k = true → fstB p k < k ∧ p (fstB p k) = true := by
  intro k
  induction k with
  | zero => exact fun h => nomatch h
  | succ k ih =>
    intro h
    show (if hasB p k = true then fstB p k else k) < k + 1 ∧ p (if hasB p k = true then fstB p k else k) = true
    by_cases e : hasB p k = true
    · rw [if_pos e]
      have := ih e
      exact ⟨by omega, this.2⟩
    · rw [if_neg e]
      have h2 : (hasB p k || p k) = true := h
      rw [Bool.eq_false_iff.mpr e, Bool.false_or] at h2
      exact ⟨by omega, h2⟩
theorem OKR_ex {E : EdT} {R nd : Nat} (hR : 1 ≤ R) (hnd : nd ≤ 6) (hE : ∀ d s, d < 6 → s < 8 → E d s = true → d < nd) (hh : hall E R nd) : ∃ ρ, OKR E nd R ρ := by
  obtain ⟨T, hV, hD⟩ := full_ex hnd hE hh 48 (fun _ _ => false) (by omega) VAL_0
  obtain ⟨N, n1, n2, n3, n4⟩ := row_ex hR hnd (fun d s hd hs ht => hE d s hd hs (hV.1 d s hd hs ht)) (fun d hd _ => hD d hd) hV.2.2
  obtain ⟨l1, l2⟩ := leave_ok hR n1 (fun d hd _ => hD d hd) hV.2.2 n2 n4
  have hρ : ∀ d, d < nd → fstB (N d) 8 < 8 ∧ N d (fstB (N d) 8) = true := fun d hd => by
    apply fstB_spec 8
    have h1 := n2 d hd
    obtain ⟨s, hs, h2⟩ := sm_pos (f := fun s => if N d s = true then 1 else 0) 8 (by
      have h3 : sm (fun s => if N d s = true then 1 else 0) 8 = 1 := h1
      omega)
    by_cases e : N d s = true
    · exact (hasB_iff 8).mpr ⟨s, hs, e⟩
    · rw [if_neg e] at h2
      exact absurd h2 (Nat.lt_irrefl _)
  refine ⟨fun d => fstB (N d) 8, fun d hd => ⟨(hρ d hd).1, hV.1 d _ (by omega) (hρ d hd).1 (n1 d _ (by omega) (hρ d hd).1 (hρ d hd).2)⟩, fun d e hd he heq => ?_, ?_⟩
  · have h1 := hρ d hd
    have h2 := hρ e (by omega)
    have heq2 : fstB (N e) 8 = fstB (N d) 8 := heq
    rw [heq2] at h2
    have h3 := n3 _ h1.1
    have h4 : 2 ≤ dS N (fstB (N d) 8) := (sm_two (f := fun x => if N x (fstB (N d) 8) = true then 1 else 0) (fun k => by show (if N k (fstB (N d) 8) = true then 1 else 0) ≤ 1; split <;> decide) 6).mpr ⟨e, d, he, by omega, if_pos h2.2, if_pos h1.2⟩
    omega
  · by_cases h0 : R - 1 = 0
    · exact Or.inl h0
    · refine Or.inr (hallB_iff.mpr (hall_of (T := fun d s => T d s && !N d s) (fun d s hd hs ht => ?_) (fun d hd hd6 => Nat.le_of_eq (l1 d hd hd6).symm) l2))
      have ht2 : (T d s && !N d s) = true := ht
      rw [Bool.and_eq_true] at ht2
      refine Em_iff.mpr ⟨hV.1 d s hd hs ht2.1, fun h9 => ?_⟩
      have h8 := (hρ d h9.1).2
      rw [← h9.2] at h8
      rw [h8] at ht2
      exact absurd ht2.2 (by decide)
/-! the order of rounds -/
def lxl (nd : Nat) (a b : Nat → Nat) : Prop := ∃ e, e < nd ∧ (∀ k, k < e → a k = b k) ∧ a e < b e
def V9 (a : Nat → Nat) : Nat → Nat
  | 0 => 0
  | k + 1 => 9 * V9 a k + a k
theorem V9_cong {a b : Nat → Nat} : ∀ m, (∀ k, k < m → a k = b k) → V9 a m = V9 b m := by
  intro m
  induction m with
  | zero => exact fun _ => rfl
  | succ m ih =>
    intro h
    show 9 * V9 a m + a m = 9 * V9 b m + b m
    rw [ih (fun k hk => h k (by omega)), h m (by omega)]
theorem V9_lt {a b : Nat → Nat} {e : Nat} (h1 : ∀ k, k < e → a k = b k) (h2 : a e < b e) : ∀ m, e < m → (∀ k, k < m → a k ≤ 8) → V9 a m < V9 b m := by
  intro m
  induction m with
  | zero => exact fun h => absurd h (Nat.not_lt_zero _)
  | succ m ih =>
    intro he h8
    show 9 * V9 a m + a m < 9 * V9 b m + b m
    by_cases em : e = m
    · subst em
      rw [V9_cong e h1]
      omega
    · have := ih (by omega) (fun k hk => h8 k (by omega))
      have := h8 m (by omega)
      omega
theorem minV {P : (Nat → Nat) → Prop} (f : (Nat → Nat) → Nat) : ∀ B, (∃ a, P a ∧ f a ≤ B) → ∃ a, P a ∧ ∀ b, P b → f a ≤ f b := by
  intro B
  induction B with
  | zero =>
    rintro ⟨a, h1, h2⟩
    exact ⟨a, h1, fun b _ => by omega⟩
  | succ B ih =>
    rintro ⟨a, h1, h2⟩
    by_cases h : ∃ a, P a ∧ f a ≤ B
    · exact ih h
    · exact ⟨a, h1, fun b hb => by
        by_cases e : f b ≤ B
        · exact absurd ⟨b, hb, e⟩ h
        · omega⟩
/-- the first one -/
def FST (E : EdT) (nd R : Nat) (ρ : Nat → Nat) : Prop := OKR E nd R ρ ∧ ∀ ρ', OKR E nd R ρ' → ¬ lxl nd ρ' ρ
theorem FST_ex {E : EdT} {nd R : Nat} (h : ∃ ρ, OKR E nd R ρ) : ∃ ρ, FST E nd R ρ := by
  obtain ⟨ρ, hρ⟩ := h
  obtain ⟨a, h1, h2⟩ := minV (P := OKR E nd R) (fun a => V9 a nd) _ ⟨ρ, hρ, Nat.le_refl _⟩
  refine ⟨a, h1, fun b hb hl => ?_⟩
  obtain ⟨e, he, h3, h4⟩ := hl
  have := V9_lt h3 h4 nd he (fun k hk => Nat.le_of_lt (hb.1 k hk).1)
  have := h2 b hb
  have h5 : V9 a nd ≤ V9 b nd := this
  omega
theorem lxl_tot {nd : Nat} {a b : Nat → Nat} : lxl nd a b ∨ lxl nd b a ∨ ∀ k, k < nd → a k = b k := by
  induction nd with
  | zero => exact Or.inr (Or.inr (fun k hk => absurd hk (Nat.not_lt_zero _)))
  | succ nd ih =>
    rcases ih with ⟨e, he, h1, h2⟩ | ⟨e, he, h1, h2⟩ | h
    · exact Or.inl ⟨e, by omega, h1, h2⟩
    · exact Or.inr (Or.inl ⟨e, by omega, h1, h2⟩)
    · by_cases h1 : a nd < b nd
      · exact Or.inl ⟨nd, by omega, h, h1⟩
      · by_cases h2 : b nd < a nd
        · exact Or.inr (Or.inl ⟨nd, by omega, fun k hk => (h k hk).symm, h2⟩)
        · refine Or.inr (Or.inr (fun k hk => ?_))
          by_cases e : k = nd
          · rw [e]
            omega
          · exact h k (by omega)
theorem FST_un {E : EdT} {nd R : Nat} {ρ ρ' : Nat → Nat} (h : FST E nd R ρ) (h' : FST E nd R ρ') : ∀ k, k < nd → ρ k = ρ' k := by
  rcases lxl_tot (nd := nd) (a := ρ) (b := ρ') with h1 | h1 | h1
  · exact absurd h1 (h'.2 ρ h.1)
  · exact absurd h1 (h.2 ρ' h'.1)
  · exact h1
/-- where the search stands: at d, with candidate c, behind a -/
def INB (ρ a : Nat → Nat) (d c : Nat) : Prop := ((∀ k, k < d → a k = ρ k) ∧ c ≤ ρ d) ∨ ∃ e, e < d ∧ (∀ k, k < e → a k = ρ k) ∧ a e < ρ e
theorem INB_skip {ρ a : Nat → Nat} {d c : Nat} (h : INB ρ a d c) (hne : (∀ k, k < d → a k = ρ k) → ρ d ≠ c) : INB ρ a d (c + 1) := by
  rcases h with ⟨h1, h2⟩ | h
  · have := hne h1
    exact Or.inl ⟨h1, by omega⟩
  · exact Or.inr h
theorem INB_back {ρ a : Nat → Nat} {d c : Nat} (h : INB ρ a (d + 1) c) (hout : (∀ k, k < d + 1 → a k = ρ k) → ¬ c ≤ ρ (d + 1)) : INB ρ a d (a d + 1) := by
  rcases h with ⟨h1, h2⟩ | ⟨e, he, h1, h2⟩
  · exact absurd h2 (hout h1)
  · by_cases ed : e = d
    · subst ed
      exact Or.inl ⟨h1, h2⟩
    · exact Or.inr ⟨e, by omega, h1, h2⟩
theorem INB_on {ρ a : Nat → Nat} {d : Nat} (h : INB ρ a d (a d)) : INB ρ a (d + 1) 0 := by
  rcases h with ⟨h1, h2⟩ | ⟨e, he, h1, h2⟩
  · by_cases e : a d = ρ d
    · refine Or.inl ⟨fun k hk => ?_, Nat.zero_le _⟩
      by_cases ek : k = d
      · rw [ek, e]
      · exact h1 k (by omega)
    · exact Or.inr ⟨d, by omega, h1, by omega⟩
  · exact Or.inr ⟨e, by omega, h1, h2⟩
/-- how far it is to the end -/
def POS (a : Nat → Nat) (d : Nat) : Nat := V9 a (d + 1) * 9 ^ (5 - d)
theorem V9_bd {a : Nat → Nat} : ∀ m, (∀ k, k < m → a k ≤ 8) → V9 a m + 1 ≤ 9 ^ m := by
  intro m
  induction m with
  | zero => exact fun _ => Nat.le_refl _
  | succ m ih =>
    intro h
    have h1 := ih (fun k hk => h k (by omega))
    have h2 := h m (by omega)
    show 9 * V9 a m + a m + 1 ≤ 9 ^ m * 9
    omega
theorem POS_bd {a : Nat → Nat} {d : Nat} (hd : d ≤ 5) (h : ∀ k, k ≤ d → a k ≤ 8) : POS a d < 531441 := by
  have h1 := V9_bd (a := a) (d + 1) (fun k hk => h k (by omega))
  have h2 : (V9 a (d + 1) + 1) * 9 ^ (5 - d) ≤ 9 ^ (d + 1) * 9 ^ (5 - d) := Nat.mul_le_mul_right _ h1
  rw [← Nat.pow_add, show d + 1 + (5 - d) = 6 by omega, Nat.add_mul, Nat.one_mul] at h2
  have h3 : 0 < 9 ^ (5 - d) := Nat.pow_pos (by decide)
  unfold POS
  have h4 : (9 : Nat) ^ 6 = 531441 := rfl
  omega
theorem POS_up {a : Nat → Nat} {d : Nat} : POS a d < POS (updN a d (a d + 1)) d := by
  unfold POS
  have h3 : 0 < 9 ^ (5 - d) := Nat.pow_pos (by decide)
  refine Nat.mul_lt_mul_of_pos_right ?_ h3
  show 9 * V9 a d + a d < 9 * V9 (updN a d (a d + 1)) d + updN a d (a d + 1) d
  rw [V9_cong (a := updN a d (a d + 1)) (b := a) d (fun k hk => updN_n (by omega)), updN_s]
  omega
theorem POS_on {a : Nat → Nat} {d : Nat} (hd : d + 1 ≤ 5) : POS (updN a (d + 1) 0) (d + 1) = POS a d := by
  unfold POS
  have e1 : V9 (updN a (d + 1) 0) (d + 1 + 1) = 9 * V9 a (d + 1) := by
    show 9 * V9 (updN a (d + 1) 0) (d + 1) + updN a (d + 1) 0 (d + 1) = _
    rw [V9_cong (a := updN a (d + 1) 0) (b := a) (d + 1) (fun k hk => updN_n (by omega)), updN_s, Nat.add_zero]
  rw [e1, show 5 - d = (5 - (d + 1)) + 1 by omega, Nat.pow_succ, Nat.mul_comm 9, Nat.mul_assoc, Nat.mul_comm 9]
theorem POS_back {a : Nat → Nat} {d : Nat} (hd : d + 1 ≤ 5) (h : a (d + 1) ≤ 8) : POS a (d + 1) < POS (updN a d (a d + 1)) d := by
  unfold POS
  have e1 : V9 (updN a d (a d + 1)) (d + 1) = V9 a (d + 1) + 1 := by
    show 9 * V9 (updN a d (a d + 1)) d + updN a d (a d + 1) d = 9 * V9 a d + a d + 1
    rw [V9_cong (a := updN a d (a d + 1)) (b := a) d (fun k hk => updN_n (by omega)), updN_s]
    omega
  have e2 : V9 a (d + 1 + 1) = 9 * V9 a (d + 1) + a (d + 1) := rfl
  rw [e1, e2, show 5 - d = (5 - (d + 1)) + 1 by omega, Nat.pow_succ]
  have h3 : 0 < 9 ^ (5 - (d + 1)) := Nat.pow_pos (by decide)
  rw [Nat.mul_comm (9 ^ (5 - (d + 1))) 9, ← Nat.mul_assoc]
  exact Nat.mul_lt_mul_of_pos_right (by omega) h3
