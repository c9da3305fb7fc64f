/-! FLOWS: what sets of diggers say (a cut), and that flows are as large as these let them -/
def popm (m : Nat) : Nat := sm (fun d => if m.testBit d = true then 1 else 0) 6
def cnt (E : EdT) (m s : Nat) : Nat := sm (fun d => if m.testBit d = true ∧ E d s = true then 1 else 0) 6
def fits (E : EdT) (r nd sv sp : Nat) : Prop := ∀ m, m < 2 ^ nd → r * popm m ≤ popm (m &&& sv) + sm (fun s => min (r - (if sp.testBit s = true then 1 else 0)) (cnt E m s)) 8
def hall (E : EdT) (r nd : Nat) : Prop := ∀ m, m < 2 ^ nd → r * popm m ≤ sm (fun s => min r (cnt E m s)) 8
theorem sm_mulc (f : Nat → Nat) (r : Nat) : ∀ a, sm (fun k => r * f k) a = r * sm f a := by
  intro a
  induction a with
  | zero => rfl
  | succ a ih =>
    show sm (fun k => r * f k) a + r * f a = r * (sm f a + f a)
    rw [ih, Nat.mul_add]
/-- the throws of a set of diggers, counted by spades -/
theorem cut_swap (T : EdT) (m : Nat) : sm (fun d => if m.testBit d = true then dD T d else 0) 6 = sm (fun s => cnt T m s) 8 := by
  unfold cnt
  rw [← sm_swap (fun d s => if m.testBit d = true ∧ T d s = true then 1 else 0) 8 6]
  refine sm_congr 6 (fun d _ => ?_)
  by_cases h : m.testBit d = true
  · rw [if_pos h]
    unfold dD
    refine sm_congr 8 (fun s _ => ?_)
    by_cases h2 : T d s = true
    · rw [if_pos h2, if_pos ⟨h, h2⟩]
    · rw [if_neg h2, if_neg (fun hh => h2 hh.2)]
  · rw [if_neg h]
    exact (sm_zero 8 (fun s _ => if_neg (fun hh => h hh.1))).symm
theorem cnt_le_dS (T : EdT) (m s : Nat) : cnt T m s ≤ dS T s := by
  refine sm_le 6 (fun d _ => ?_)
  by_cases h2 : T d s = true
  · rw [if_pos h2]
    split <;> decide
  · rw [if_neg h2, if_neg (fun hh => h2 hh.2)]
    exact Nat.le_refl _
theorem cnt_mono {T E : EdT} (m : Nat) {s : Nat} (h : ∀ d, d < 6 → T d s = true → E d s = true) : cnt T m s ≤ cnt E m s := by
  refine sm_le 6 (fun d hd => ?_)
  by_cases h2 : m.testBit d = true ∧ T d s = true
  · rw [if_pos h2, if_pos ⟨h2.1, h d hd h2.2⟩]
    exact Nat.le_refl _
  · rw [if_neg h2]
    exact Nat.zero_le _
theorem fits_of {T E : EdT} {r nd sv sp : Nat} (hTE : ∀ d s, d < 6 → s < 8 → T d s = true → E d s = true) (hD : ∀ d, d < nd → d < 6 → r ≤ dD T d + (if sv.testBit d = true then 1 else 0)) (hS : ∀ s, s < 8 → dS T s ≤ r - (if sp.testBit s = true then 1 else 0)) : fits E r nd sv sp := by
  intro m hm
  have h1 : r * popm m ≤ sm (fun d => if m.testBit d = true then dD T d else 0) 6 + popm (m &&& sv) := by
    unfold popm
    rw [← sm_mulc, ← sm_add]
    refine sm_le 6 (fun d hd => ?_)
    rw [Nat.testBit_and]
    by_cases h : m.testBit d = true
    · have hdn : d < nd := by
        by_cases e : d < nd
        · exact e
        · have := Nat.testBit_lt_two_pow (Nat.lt_of_lt_of_le hm (show 2 ^ nd ≤ 2 ^ d from Nat.pow_le_pow_right (by decide) (by omega)))
          rw [this] at h
          exact absurd h (by decide)
      have := hD d hdn hd
      rw [if_pos h, if_pos h, h, Bool.true_and, Nat.mul_one]
      exact this
    · rw [if_neg h, Nat.mul_zero]
      exact Nat.zero_le _
  rw [cut_swap] at h1
  have h2 : sm (fun s => cnt T m s) 8 ≤ sm (fun s => min (r - (if sp.testBit s = true then 1 else 0)) (cnt E m s)) 8 := by
    refine sm_le 8 (fun s hs => ?_)
    have h3 := cnt_le_dS T m s
    have h4 := cnt_mono (T := T) (E := E) m (s := s) (fun d hd ht => hTE d s hd hs ht)
    have h5 := hS s hs
    exact Nat.le_min.mpr ⟨by omega, h4⟩
  omega
theorem hall_fits {E : EdT} {r nd : Nat} : fits E r nd 0 0 ↔ hall E r nd := by
  have h : ∀ m, popm (m &&& 0) = 0 := fun m => by
    rw [Nat.and_zero]
    exact sm_zero 6 (fun d _ => by rw [Nat.zero_testBit]; rfl)
  unfold fits hall
  constructor
  · intro h1 m hm
    have := h1 m hm
    rw [h, Nat.zero_add] at this
    rw [sm_congr (g := fun s => min (r - (if (0 : Nat).testBit s = true then 1 else 0)) (cnt E m s)) 8 (fun s _ => by rw [Nat.zero_testBit]; rfl)]
    exact this
  · intro h1 m hm
    have := h1 m hm
    rw [h, Nat.zero_add]
    rw [sm_congr (g := fun s => min r (cnt E m s)) 8 (fun s _ => by rw [Nat.zero_testBit]; rfl)]
    exact this
theorem hall_of {T E : EdT} {r nd : Nat} (hTE : ∀ d s, d < 6 → s < 8 → T d s = true → E d s = true) (hD : ∀ d, d < nd → d < 6 → r ≤ dD T d) (hS : ∀ s, s < 8 → dS T s ≤ r) : hall E r nd := hall_fits.mp (fits_of hTE (fun d hd hd6 => Nat.le_trans (hD d hd hd6) (Nat.le_add_right _ _)) (fun s hs => by rw [Nat.zero_testBit]; exact hS s hs))
/-- plain weights: what is reached at all is gained by -/
def wP : Nat → Nat → Int := fun _ _ => 1000
theorem wP_WB : WB wP := fun _ _ => ⟨show (0 : Int) ≤ 1000 by decide, show (1000 : Int) ≤ 1000 by decide⟩
def pP : Nat → Int := fun v => if v < 6 then 0 else 1000
theorem PV_plain {E T : EdT} {r nd : Nat} (h1 : ∀ d s, d < 6 → s < 8 → T d s = true → E d s = true) (h2 : ∀ d, d < 6 → dD T d ≤ r) (h3 : ∀ s, s < 8 → dS T s ≤ r) : PV E T wP r nd pP 1000 := by
  have e1 : ∀ d, d < 6 → pP d = 0 := fun d hd => if_pos hd
  have e2 : ∀ s, pP (6 + s) = 1000 := fun s => if_neg (by omega)
  refine ⟨fun d s hd hs ht => ⟨h1 d s hd hs ht, ?_⟩, fun d s hd hs he ht => ?_, fun d hn hd hr => ?_, fun d hd hr => ?_, fun s hs hr => ?_, fun s hs hr => ?_, h2, h3, by decide⟩
  · rw [e1 d hd, e2]
    show (1000 : Int) ≤ 0 + 1000
    decide
  · rw [e1 d hd, e2]
    show (0 : Int) + 1000 ≤ 1000
    decide
  · rw [e1 d hd]; decide
  · rw [e1 d hd]; decide
  · rw [e2]; decide
  · rw [e2]; decide
theorem FIX_low {T E : EdT} {p : Nat → Int} {r nd : Nat} {x : LabT} {t : Nat → Nat} (h : FIX (fA T E wP) p (srcF T r nd) x t) : ∀ m d, d < 6 → x.1 d ≠ NOi → rkn p x.1 t 6 d ≤ m → 0 ≤ x.1 d := by
  intro m
  induction m with
  | zero =>
    intro d hd hr hm
    rcases FIX_D h hd hr with ⟨-, h1, -⟩ | ⟨s', hs', -, hr', -, -, h5⟩
    · omega
    · have h6 := FIX_S h hs' hr'
      have := rkn_lt (N := 6) h6.1 (lx_tr h6.2.2.2.2.2 h5)
      omega
  | succ m ih =>
    intro d hd hr hm
    rcases FIX_D h hd hr with ⟨-, h1, -⟩ | ⟨s', hs', -, hr', -, h4, h5⟩
    · omega
    · have h6 := FIX_S h hs' hr'
      have h7 := rkn_lt (N := 6) h6.1 (lx_tr h6.2.2.2.2.2 h5)
      have h8 := ih _ h6.1 h6.2.1 (by omega)
      have h9 := h6.2.2.2.2.1
      have e1 : wP d s' = 1000 := rfl
      have e2 : wP (x.2 (6 + s')) s' = 1000 := rfl
      omega
theorem FIX_lowS {T E : EdT} {p : Nat → Int} {r nd : Nat} {x : LabT} {t : Nat → Nat} (h : FIX (fA T E wP) p (srcF T r nd) x t) {s : Nat} (hs : s < 8) (hr : x.1 (6 + s) ≠ NOi) : 1000 ≤ x.1 (6 + s) := by
  have h6 := FIX_S h hs hr
  have h8 := FIX_low h _ _ h6.1 h6.2.1 (Nat.le_refl _)
  have h9 := h6.2.2.2.2.1
  have e2 : wP (x.2 (6 + s)) s = 1000 := rfl
  omega
/-- where no throw more is gained and somebody has too few, a set of diggers says why -/
theorem cut_of {T E : EdT} {r nd : Nat} {x : LabT} {t : Nat → Nat} (h : FIX (fA T E wP) pP (srcF T r nd) x t) (hsrc : ∀ d, srcF T r nd d → x.1 d ≠ NOi ∧ 0 ≤ x.1 d) (hTE : ∀ d s, d < 6 → s < 8 → T d s = true → E d s = true) (hE : ∀ d s, d < 6 → s < 8 → E d s = true → d < nd) (hD : ∀ d, d < 6 → dD T d ≤ r) (hS : ∀ s, s < 8 → dS T s ≤ r)
    (hstop : ∀ s, s < 8 → dS T s < r → x.1 (6 + s) ≠ NOi → x.1 (6 + s) ≤ 0) (hnd : nd ≤ 6) {d0 : Nat} (hd0 : d0 < nd) (hr0 : dD T d0 < r) : ¬ hall E r nd := by
  intro hh
  obtain ⟨m, hmd⟩ : ∃ m, m = orB (fun d => decide (x.1 d ≠ NOi)) (fun d => d) nd := ⟨_, rfl⟩
  have hmb : ∀ d, (m.testBit d = true ↔ d < nd ∧ x.1 d ≠ NOi) := fun d => by
    rw [hmd, orB_bit]
    exact ⟨fun ⟨i, hi, h1, h2⟩ => by subst h2; exact ⟨hi, of_decide_eq_true h1⟩, fun ⟨h1, h2⟩ => ⟨d, h1, decide_eq_true h2, rfl⟩⟩
  have hm : m < 2 ^ nd := by
    rw [hmd]
    exact orB_lt nd (fun i hi => hi)
  have h1 := hh m hm
  have h2 : sm (fun s => min r (cnt E m s)) 8 ≤ sm (fun s => cnt T m s) 8 := by
    refine sm_le 8 (fun s hs => ?_)
    by_cases hr : x.1 (6 + s) ≠ NOi
    · have g1 : dS T s = r := by
        have g2 := FIX_lowS h hs hr
        by_cases e : dS T s < r
        · have := hstop s hs e hr
          omega
        · have := hS s hs
          omega
      have g3 : cnt T m s = dS T s := by
        refine sm_congr 6 (fun d hd => ?_)
        by_cases e : T d s = true
        · have g4 := h.2 (8 * d + s) (6 + s) d (- wP d s) (by omega) (fA_t hs e) hr
          rw [if_pos e, if_pos ⟨(hmb d).mpr ⟨hE d s hd hs (hTE d s hd hs e), g4.2⟩, e⟩]
        · rw [if_neg e, if_neg (fun h9 => e h9.2)]
      omega
    · have g3 : cnt E m s ≤ cnt T m s := by
        refine sm_le 6 (fun d hd => ?_)
        by_cases e : m.testBit d = true ∧ E d s = true
        · by_cases e2 : T d s = true
          · rw [if_pos e, if_pos ⟨e.1, e2⟩]
            exact Nat.le_refl _
          · have g4 := h.2 (8 * d + s) d (6 + s) (wP d s) (by omega) (fA_e hs (Bool.eq_false_iff.mpr e2) e.2) ((hmb d).mp e.1).2
            exact absurd g4.2 hr
        · rw [if_neg e]
          exact Nat.zero_le _
      exact Nat.le_trans (Nat.min_le_right _ _) g3
  rw [← cut_swap] at h2
  have h3 : sm (fun d => if m.testBit d = true then dD T d else 0) 6 < r * popm m := by
    unfold popm
    rw [← sm_mulc]
    have hr9 := (hsrc d0 ⟨by omega, hd0, hr0⟩).1
    refine (sm_lt 6 (fun d hd => ?_)).mpr ⟨d0, by omega, ?_⟩
    · by_cases e : m.testBit d = true
      · rw [if_pos e, if_pos e, Nat.mul_one]
        exact hD d hd
      · rw [if_neg e]
        exact Nat.zero_le _
    · have e := (hmb d0).mpr ⟨hd0, hr9⟩
      rw [if_pos e, if_pos e, Nat.mul_one]
      exact hr0
  omega
