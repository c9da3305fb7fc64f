/-! FLOWS: one round taken out, so that one less can follow -/
/-- the spades that are in all the rounds -/
def phi (T : EdT) (r s : Nat) : Int := if dS T s = r then 1 else 0
def w1 (T : EdT) (r : Nat) : Nat → Nat → Int := fun _ s => 1 + phi T r s
theorem phi_01 {T : EdT} {r s : Nat} : phi T r s = 0 ∨ phi T r s = 1 := by
  unfold phi
  split
  · exact Or.inr rfl
  · exact Or.inl rfl
theorem w1_WB {T : EdT} {r : Nat} : WB (w1 T r) := fun d s => by
  have h : w1 T r d s = 1 + phi T r s := rfl
  rcases phi_01 (T := T) (r := r) (s := s) with e | e <;> rw [h, e] <;> decide
theorem mul_le0 {a b : Int} (ha : a ≤ 0) (hb : 0 ≤ b) : a * b ≤ 0 := by
  have := Int.mul_nonneg (show 0 ≤ -a by omega) hb
  rw [Int.neg_mul] at this
  omega
/-- the weights of throws against prices -/
theorem cert {T N : EdT} {w : Nat → Nat → Int} {r nd : Nat} {p : Nat → Int} (hr : 1 ≤ r) (hP : PV T N w 1 nd p 0) (hT : ∀ d s, d < 6 → s < 8 → T d s = true → d < nd) (hD : ∀ d, d < nd → d < 6 → dD T d = r) (hS : ∀ s, s < 8 → dS T s ≤ r) : D2 (fun d s => w d s * bI (T d s)) ≤ (r : Int) * D2 (fun d s => w d s * bI (N d s)) := by
  obtain ⟨h1, h2, h3, h4, h5, h6, h7, h8, -⟩ := hP
  -- D2 of T's weights, against prices
  have a1 : D2 (fun d s => w d s * bI (T d s)) + D2 (fun d s => (r : Int) * ((p (6 + s) - p d) * bI (N d s))) ≤ D2 (fun d s => (p (6 + s) - p d) * bI (T d s)) + D2 (fun d s => (r : Int) * (w d s * bI (N d s))) := by
    rw [← D2_add, ← D2_add]
    refine D2_le (fun d s hd hs => ?_)
    by_cases ht : T d s = true
    · by_cases hn : N d s = true
      · have g := (h1 d s hd hs hn).2
        rw [ht, hn]
        show w d s * 1 + (r : Int) * ((p (6 + s) - p d) * 1) ≤ (p (6 + s) - p d) * 1 + (r : Int) * (w d s * 1)
        rw [Int.mul_one, Int.mul_one]
        have h9 : (0 : Int) ≤ ((r : Int) - 1) * (w d s - (p (6 + s) - p d)) := Int.mul_nonneg (by omega) (by omega)
        rw [Int.sub_mul, Int.mul_sub, Int.one_mul] at h9
        omega
      · have g := h2 d s hd hs ht (Bool.eq_false_iff.mpr hn)
        rw [ht, Bool.eq_false_iff.mpr hn]
        show w d s * 1 + (r : Int) * ((p (6 + s) - p d) * 0) ≤ (p (6 + s) - p d) * 1 + (r : Int) * (w d s * 0)
        rw [Int.mul_one, Int.mul_one, Int.mul_zero, Int.mul_zero, Int.mul_zero]
        omega
    · have hn : N d s = false := Bool.eq_false_iff.mpr (fun e => ht (h1 d s hd hs e).1)
      rw [Bool.eq_false_iff.mpr ht, hn]
      show w d s * 0 + (r : Int) * ((p (6 + s) - p d) * 0) ≤ (p (6 + s) - p d) * 0 + (r : Int) * (w d s * 0)
      rw [Int.mul_zero, Int.mul_zero, Int.mul_zero]
      exact Int.le_refl _
  have spl : ∀ X : EdT, D2 (fun d s => (p (6 + s) - p d) * bI (X d s)) = smI (fun s => p (6 + s) * ((dS X s : Nat) : Int)) 8 + smI (fun d => (- p d) * ((dD X d : Nat) : Int)) 6 := fun X => by
    rw [← D2_col X (fun s => p (6 + s)), ← D2_row X (fun d => - p d), ← D2_add]
    refine D2_congr (fun d s _ _ => ?_)
    rw [Int.sub_mul, Int.neg_mul]
    omega
  have b1 : smI (fun s => p (6 + s) * ((dS T s : Nat) : Int)) 8 ≤ (r : Int) * smI (fun s => p (6 + s) * ((dS N s : Nat) : Int)) 8 := by
    rw [← smI_mulc]
    refine smI_le 8 (fun s hs => ?_)
    have g1 := h8 s hs
    have g2 := hS s hs
    by_cases e : dS N s = 0
    · have g3 := h5 s hs (by omega)
      rw [e]
      show p (6 + s) * ((dS T s : Nat) : Int) ≤ (r : Int) * (p (6 + s) * 0)
      rw [Int.mul_zero, Int.mul_zero]
      exact mul_le0 g3 (by omega)
    · have e2 : dS N s = 1 := by omega
      have g3 := h6 s hs (by omega)
      rw [e2]
      show p (6 + s) * ((dS T s : Nat) : Int) ≤ (r : Int) * (p (6 + s) * 1)
      rw [Int.mul_one, Int.mul_comm (r : Int)]
      exact Int.mul_le_mul_of_nonneg_left (by omega) g3
  have b2 : smI (fun d => (- p d) * ((dD T d : Nat) : Int)) 6 ≤ (r : Int) * smI (fun d => (- p d) * ((dD N d : Nat) : Int)) 6 := by
    rw [← smI_mulc]
    refine smI_le 6 (fun d hd => ?_)
    have g1 := h7 d hd
    by_cases hn : d < nd
    · rw [hD d hn hd]
      by_cases e : dD N d = 0
      · have g3 := h3 d hn hd (by omega)
        rw [e]
        show (- p d) * ((r : Nat) : Int) ≤ (r : Int) * ((- p d) * 0)
        rw [Int.mul_zero, Int.mul_zero]
        exact mul_le0 (by omega) (by omega)
      · have e2 : dD N d = 1 := by omega
        rw [e2]
        show (- p d) * ((r : Nat) : Int) ≤ (r : Int) * ((- p d) * 1)
        rw [Int.mul_one, Int.mul_comm]
        exact Int.le_refl _
    · have z1 : dD T d = 0 := sm_zero 8 (fun s hs => if_neg (fun e => hn (hT d s hd hs e)))
      have z2 : dD N d = 0 := sm_zero 8 (fun s hs => if_neg (fun e => hn (hT d s hd hs (h1 d s hd hs e).1)))
      rw [z1, z2]
      show (- p d) * 0 ≤ (r : Int) * ((- p d) * 0)
      rw [Int.mul_zero, Int.mul_zero]
      exact Int.le_refl _
  rw [D2_mulc, D2_mulc, spl, spl] at a1
  rw [Int.mul_add] at a1
  omega
theorem row_ex {T : EdT} {r nd : Nat} (hr : 1 ≤ r) (hnd : nd ≤ 6) (hT : ∀ d s, d < 6 → s < 8 → T d s = true → d < nd) (hD : ∀ d, d < nd → d < 6 → dD T d = r) (hS : ∀ s, s < 8 → dS T s ≤ r) : ∃ N : EdT, (∀ d s, d < 6 → s < 8 → N d s = true → T d s = true) ∧ (∀ d, d < nd → dD N d = 1) ∧ (∀ s, s < 8 → dS N s ≤ 1) ∧ ∀ s, s < 8 → dS T s = r → dS N s = 1 := by
  obtain ⟨N, p, hP⟩ := maxm (E := T) (w := w1 T r) (r := 1) (nd := nd) w1_WB 48 (fun _ _ => false) pP 1000 (Nat.le_add_left _ _) (PV_none w1_WB)
  have hc := cert hr hP hT hD hS
  obtain ⟨h1, -, -, -, -, -, h7, h8, -⟩ := hP
  have e1 : ∀ X : EdT, D2 (fun d s => w1 T r d s * bI (X d s)) = smI (fun d => ((dD X d : Nat) : Int)) 6 + smI (fun s => phi T r s * ((dS X s : Nat) : Int)) 8 := fun X => by
    rw [← D2_col X (fun s => phi T r s), smI_congr (g := fun d => 1 * ((dD X d : Nat) : Int)) 6 (fun d _ => (Int.one_mul _).symm), ← D2_row X (fun _ => 1), ← D2_add]
    refine D2_congr (fun d s _ _ => ?_)
    show (1 + phi T r s) * bI (X d s) = 1 * bI (X d s) + phi T r s * bI (X d s)
    rw [Int.add_mul]
  rw [e1, e1] at hc
  -- T has r of all that is asked
  have c1 : smI (fun d => ((dD T d : Nat) : Int)) 6 = (r : Int) * smI (fun d => if d < nd then 1 else 0) 6 := by
    rw [← smI_mulc]
    refine smI_congr 6 (fun d hd => ?_)
    by_cases hn : d < nd
    · rw [if_pos hn, Int.mul_one, hD d hn hd]
    · rw [if_neg hn, Int.mul_zero, show dD T d = 0 from sm_zero 8 (fun s hs => if_neg (fun e => hn (hT d s hd hs e)))]
      rfl
  have c2 : smI (fun s => phi T r s * ((dS T s : Nat) : Int)) 8 = (r : Int) * smI (fun s => phi T r s) 8 := by
    rw [← smI_mulc]
    refine smI_congr 8 (fun s hs => ?_)
    by_cases e : dS T s = r
    · rw [e, Int.mul_comm]
    · rw [show phi T r s = 0 from if_neg e, Int.zero_mul, Int.mul_zero]
  rw [c1, c2, ← Int.mul_add] at hc
  have hc2 := Int.le_of_mul_le_mul_left hc (by omega)
  -- N has no more than is asked, so just that
  have d1 : ∀ d, d < 6 → ((dD N d : Nat) : Int) ≤ (if d < nd then 1 else 0) := fun d hd => by
    have := h7 d hd
    by_cases hn : d < nd
    · rw [if_pos hn]
      omega
    · rw [if_neg hn, show dD N d = 0 from sm_zero 8 (fun s hs => if_neg (fun e => hn (hT d s hd hs (h1 d s hd hs e).1)))]
      exact Int.le_refl _
  have d2 : ∀ s, s < 8 → phi T r s * ((dS N s : Nat) : Int) ≤ phi T r s := fun s hs => by
    have := h8 s hs
    rcases phi_01 (T := T) (r := r) (s := s) with e | e
    · rw [e, Int.zero_mul]
      exact Int.le_refl _
    · rw [e, Int.one_mul]
      omega
  have eqI : ∀ (f g : Nat → Int) a, (∀ k, k < a → f k ≤ g k) → smI g a ≤ smI f a → ∀ k, k < a → f k = g k := by
    intro f g a
    induction a with
    | zero => exact fun _ _ k hk => absurd hk (Nat.not_lt_zero _)
    | succ a ih =>
      intro hle hs k hk
      have q1 := smI_le a (fun k hk => hle k (show k < a + 1 by omega))
      have q2 := hle a (by omega)
      have q3 : smI g a + g a ≤ smI f a + f a := hs
      by_cases e : k = a
      · rw [e]
        omega
      · exact ih (fun k hk => hle k (by omega)) (by omega) k (by omega)
  have f1 : smI (fun d => ((dD N d : Nat) : Int)) 6 ≤ smI (fun d => if d < nd then 1 else 0) 6 := smI_le 6 d1
  have f2 : smI (fun s => phi T r s * ((dS N s : Nat) : Int)) 8 ≤ smI (fun s => phi T r s) 8 := smI_le 8 d2
  have g1 := eqI (fun d => ((dD N d : Nat) : Int)) (fun d => if d < nd then 1 else 0) 6 d1 (by omega)
  have g2 := eqI (fun s => phi T r s * ((dS N s : Nat) : Int)) (fun s => phi T r s) 8 d2 (by omega)
  refine ⟨N, fun d s hd hs ht => (h1 d s hd hs ht).1, fun d hd => ?_, h8, fun s hs e => ?_⟩
  · have := g1 d (by omega)
    have h9 : ((dD N d : Nat) : Int) = if d < nd then 1 else 0 := this
    rw [if_pos hd] at h9
    omega
  · have h9 : phi T r s * ((dS N s : Nat) : Int) = phi T r s := g2 s hs
    rw [show phi T r s = 1 from if_pos e, Int.one_mul] at h9
    omega
/-- what is left behind the round -/
theorem leave_ok {T N : EdT} {r nd : Nat} (hr : 1 ≤ r) (hN : ∀ d s, d < 6 → s < 8 → N d s = true → T d s = true) (hD : ∀ d, d < nd → d < 6 → dD T d = r) (hS : ∀ s, s < 8 → dS T s ≤ r) (hN1 : ∀ d, d < nd → dD N d = 1) (hN3 : ∀ s, s < 8 → dS T s = r → dS N s = 1) : (∀ d, d < nd → d < 6 → dD (fun d s => T d s && !N d s) d = r - 1) ∧ ∀ s, s < 8 → dS (fun d s => T d s && !N d s) s ≤ r - 1 := by
  have k1 : ∀ d, d < 6 → dD (fun d s => T d s && !N d s) d + dD N d = dD T d := fun d hd => by
    unfold dD
    rw [← sm_add]
    refine sm_congr 8 (fun s hs => ?_)
    by_cases e : N d s = true
    · show (if (T d s && !N d s) = true then 1 else 0) + (if N d s = true then 1 else 0) = (if T d s = true then 1 else 0)
      rw [e, hN d s hd hs e]
      rfl
    · show (if (T d s && !N d s) = true then 1 else 0) + (if N d s = true then 1 else 0) = (if T d s = true then 1 else 0)
      rw [Bool.eq_false_iff.mpr e, Bool.not_false, Bool.and_true]
      rfl
  have k2 : ∀ s, s < 8 → dS (fun d s => T d s && !N d s) s + dS N s = dS T s := fun s hs => by
    unfold dS
    rw [← sm_add]
    refine sm_congr 6 (fun d hd => ?_)
    by_cases e : N d s = true
    · show (if (T d s && !N d s) = true then 1 else 0) + (if N d s = true then 1 else 0) = (if T d s = true then 1 else 0)
      rw [e, hN d s hd hs e]
      rfl
    · show (if (T d s && !N d s) = true then 1 else 0) + (if N d s = true then 1 else 0) = (if T d s = true then 1 else 0)
      rw [Bool.eq_false_iff.mpr e, Bool.not_false, Bool.and_true]
      rfl
  refine ⟨fun d hd hd6 => ?_, fun s hs => ?_⟩
  · have := k1 d hd6
    have := hD d hd hd6
    have := hN1 d hd
    omega
  · have := k2 s hs
    have := hS s hs
    by_cases e : dS T s = r
    · have := hN3 s hs e
      omega
    · omega
