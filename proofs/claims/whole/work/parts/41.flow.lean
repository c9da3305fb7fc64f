/-! FLOWS: labels that grow along arcs, over fourteen places (diggers 0 .. 5, spades 6 .. 13) -/
def NOi : Int := -1000000
def upI (f : Nat → Int) (k : Nat) (x : Int) : Nat → Int := fun j => if j = k then x else f j
theorem upI_s {f : Nat → Int} {k : Nat} {x : Int} : upI f k x k = x := if_pos rfl
theorem upI_n {f : Nat → Int} {k j : Nat} {x : Int} (h : j ≠ k) : upI f k x j = f j := if_neg h
abbrev LabT := (Nat → Int) × (Nat → Nat)
abbrev ArcT := Nat → Option (Nat × Nat × Int)
def rel (u v : Nat) (l : Int) (s : LabT) : LabT := if s.1 u ≠ NOi ∧ s.1 v < s.1 u + l then (upI s.1 v (s.1 u + l), updN s.2 v u) else s
def rk (A : ArcT) (s : LabT) : Nat → LabT
  | 0 => s
  | k + 1 => match A k with
    | none => rk A s k
    | some (u, v, l) => rel u v l (rk A s k)
def tn (A : ArcT) (s : LabT) : Nat → LabT
  | 0 => s
  | i + 1 => rk A (tn A s i) 48
/-- nearer to a source: by what is lost against p, then by age -/
def lx (p L : Nat → Int) (t : Nat → Nat) (u v : Nat) : Prop := p u - L u < p v - L v ∨ (p u - L u ≤ p v - L v ∧ t u < t v)
theorem lx_tr {p L : Nat → Int} {t : Nat → Nat} {a b c : Nat} (h1 : lx p L t a b) (h2 : lx p L t b c) : lx p L t a c := by
  unfold lx at *
  omega
theorem lx_ir {p L : Nat → Int} {t : Nat → Nat} {a : Nat} : ¬ lx p L t a a := by
  unfold lx
  omega
def AOK (A : ArcT) (p : Nat → Int) : Prop := ∀ k u v l, k < 48 → A k = some (u, v, l) → u < 14 ∧ v < 14 ∧ u ≠ v ∧ p u + l ≤ p v ∧ -1000 ≤ l
def PTR (A : ArcT) (p : Nat → Int) (src : Nat → Prop) (s : LabT) (t τ : Nat → Nat) (v : Nat) : Prop :=
  (src v ∧ s.1 v = 0 ∧ s.2 v = 99 ∧ τ v = 0) ∨ ∃ u l k, k < 48 ∧ A k = some (u, v, l) ∧ s.2 v = u ∧ s.1 u ≠ NOi ∧ s.1 v ≤ s.1 u + l ∧ lx p s.1 t u v ∧ τ v ≤ τ u + 1
def IV (A : ArcT) (p : Nat → Int) (src : Nat → Prop) (s : LabT) (t τ : Nat → Nat) (c i k : Nat) : Prop :=
  (∀ v, v < 14 → s.1 v ≠ NOi → s.1 v ≤ p v ∧ -1000 * (c : Int) ≤ s.1 v ∧ t v < c + 1 ∧ τ v ≤ i ∧ PTR A p src s t τ v) ∧
  (∀ k' u v l, k' < 48 → A k' = some (u, v, l) → s.1 u ≠ NOi → s.1 v < s.1 u + l → (k' < k → i ≤ τ u) ∧ i ≤ τ u + 1) ∧ c + 48 ≤ 48 * i + k
theorem IV_rel {A : ArcT} {p : Nat → Int} {src : Nat → Prop} (hA : AOK A p) {s : LabT} {t τ : Nat → Nat} {c i k u v : Nat} {l : Int} (h : IV A p src s t τ c i k) (hk : k < 48) (hi : i ≤ 16) (ha : A k = some (u, v, l)) (hviol : s.1 u ≠ NOi ∧ s.1 v < s.1 u + l) :
    IV A p src (upI s.1 v (s.1 u + l), updN s.2 v u) (updN t v (c + 1)) (updN τ v i) (c + 1) i (k + 1) := by
  obtain ⟨h1, h2, h3⟩ := h
  obtain ⟨hu, hv, huv, hp, hl⟩ := hA k u v l hk ha
  obtain ⟨hr, hlt⟩ := hviol
  obtain ⟨hLu, hLc, htu, hτui, hPu⟩ := h1 u hu hr
  have hτu := (h2 k u v l hk ha hr hlt).2
  have hno : s.1 u + l ≠ NOi := by
    unfold NOi
    omega
  have huL : upI s.1 v (s.1 u + l) u = s.1 u := upI_n huv
  refine ⟨fun x hx hxr => ?_, fun k' a b l' hk' ha' har hab => ?_, by omega⟩
  · by_cases e : x = v
    · subst e
      refine ⟨?_, ?_, ?_, ?_, Or.inr ⟨u, l, k, hk, ha, updN_s, ?_, ?_, ?_, ?_⟩⟩
      · show upI s.1 x (s.1 u + l) x ≤ p x
        rw [upI_s]
        omega
      · show _ ≤ upI s.1 x (s.1 u + l) x
        rw [upI_s]
        omega
      · rw [updN_s]
        omega
      · rw [updN_s]
        exact Nat.le_refl _
      · show upI s.1 x (s.1 u + l) u ≠ NOi
        rw [huL]
        exact hr
      · show upI s.1 x (s.1 u + l) x ≤ upI s.1 x (s.1 u + l) u + l
        rw [upI_s, huL]
        exact Int.le_refl _
      · show lx p (upI s.1 x (s.1 u + l)) (updN t x (c + 1)) u x
        unfold lx
        rw [upI_s, huL, updN_s, updN_n huv]
        omega
      · rw [updN_s, updN_n huv]
        exact hτu
    · have hxr2 : s.1 x ≠ NOi := by
        have h9 : upI s.1 v (s.1 u + l) x ≠ NOi := hxr
        rwa [upI_n e] at h9
      obtain ⟨g1, g2, g3, g5, g4⟩ := h1 x hx hxr2
      have hxL : upI s.1 v (s.1 u + l) x = s.1 x := upI_n e
      refine ⟨?_, ?_, ?_, ?_, ?_⟩
      · show upI s.1 v (s.1 u + l) x ≤ p x
        rw [hxL]
        exact g1
      · show _ ≤ upI s.1 v (s.1 u + l) x
        rw [hxL]
        omega
      · rw [updN_n e]
        omega
      · rw [updN_n e]
        exact g5
      · rcases g4 with ⟨s1, s2, s3, s4⟩ | ⟨a, la, ka, a1, a2, a3, a4, a5, a6, a7⟩
        · exact Or.inl ⟨s1, hxL.trans s2, (updN_n e).trans s3, (updN_n e).trans s4⟩
        · refine Or.inr ⟨a, la, ka, a1, a2, (updN_n e).trans a3, ?_, ?_, ?_, ?_⟩
          · show upI s.1 v (s.1 u + l) a ≠ NOi
            by_cases ea : a = v
            · rw [ea, upI_s]
              exact hno
            · rw [upI_n ea]
              exact a4
          · show upI s.1 v (s.1 u + l) x ≤ upI s.1 v (s.1 u + l) a + la
            rw [hxL]
            by_cases ea : a = v
            · subst ea
              rw [upI_s]
              omega
            · rw [upI_n ea]
              exact a5
          · show lx p (upI s.1 v (s.1 u + l)) (updN t v (c + 1)) a x
            unfold lx at a6 ⊢
            rw [hxL, updN_n e]
            by_cases ea : a = v
            · subst ea
              rw [upI_s]
              omega
            · rw [upI_n ea, updN_n ea]
              exact a6
          · rw [updN_n e]
            by_cases ea : a = v
            · subst ea
              rw [updN_s]
              omega
            · rw [updN_n ea]
              exact a7
  · by_cases ea : a = v
    · subst ea
      rw [updN_s]
      exact ⟨fun _ => Nat.le_refl _, by omega⟩
    · have har2 : upI s.1 v (s.1 u + l) a ≠ NOi := har
      have hab2 : upI s.1 v (s.1 u + l) b < upI s.1 v (s.1 u + l) a + l' := hab
      rw [upI_n ea] at har2 hab2
      rw [updN_n ea]
      by_cases eb : b = v
      · subst eb
        rw [upI_s] at hab2
        have h9 := h2 k' a b l' hk' ha' har2 (by omega)
        refine ⟨fun hlt2 => ?_, h9.2⟩
        by_cases ek : k' = k
        · subst ek
          rw [ha] at ha'
          have e1 := Option.some.inj ha'
          have e2 : u = a := congrArg Prod.fst e1
          have e3 : l = l' := congrArg (fun q => q.2.2) e1
          subst e2
          omega
        · exact h9.1 (by omega)
      · rw [upI_n eb] at hab2
        have h9 := h2 k' a b l' hk' ha' har2 hab2
        refine ⟨fun hlt2 => ?_, h9.2⟩
        by_cases ek : k' = k
        · subst ek
          rw [ha] at ha'
          have e1 := Option.some.inj ha'
          have e2 : v = b := congrArg (fun q => q.2.1) e1
          exact absurd e2.symm eb
        · exact h9.1 (by omega)
theorem IV_keep {A : ArcT} {p : Nat → Int} {src : Nat → Prop} {s : LabT} {t τ : Nat → Nat} {c i k : Nat} (h : IV A p src s t τ c i k) (hno : ∀ u v l, A k = some (u, v, l) → ¬ (s.1 u ≠ NOi ∧ s.1 v < s.1 u + l)) : IV A p src s t τ c i (k + 1) := by
  obtain ⟨h1, h2, h3⟩ := h
  refine ⟨h1, fun k' u v l hk' ha hr hlt => ?_, by omega⟩
  have h9 := h2 k' u v l hk' ha hr hlt
  refine ⟨fun hk => ?_, h9.2⟩
  by_cases e : k' = k
  · subst e
    exact absurd ⟨hr, hlt⟩ (hno u v l ha)
  · exact h9.1 (by omega)
/-- how many places are nearer -/
def rkn (p L : Nat → Int) (t : Nat → Nat) (N v : Nat) : Nat := sm (fun x => if p x - L x < p v - L v ∨ (p x - L x ≤ p v - L v ∧ t x < t v) then 1 else 0) N
theorem rkn_lt {p L : Nat → Int} {t : Nat → Nat} {N u v : Nat} (hu : u < N) (h : lx p L t u v) : rkn p L t N u < rkn p L t N v := by
  unfold rkn
  refine (sm_lt N (fun x _ => ?_)).mpr ⟨u, hu, ?_⟩
  · by_cases h1 : p x - L x < p u - L u ∨ (p x - L x ≤ p u - L u ∧ t x < t u)
    · have h5 : p x - L x < p v - L v ∨ (p x - L x ≤ p v - L v ∧ t x < t v) := lx_tr (p := p) (L := L) (t := t) h1 h
      rw [if_pos h1, if_pos h5]
      exact Nat.le_refl _
    · rw [if_neg h1]
      exact Nat.zero_le _
  · have h2 : ¬ (p u - L u < p u - L u ∨ (p u - L u ≤ p u - L u ∧ t u < t u)) := lx_ir (p := p) (L := L) (t := t)
    have h5 : p u - L u < p v - L v ∨ (p u - L u ≤ p v - L v ∧ t u < t v) := h
    rw [if_neg h2, if_pos h5]
    decide
theorem rkn_le {p L : Nat → Int} {t : Nat → Nat} {N v : Nat} (hv : v < N) : rkn p L t N v < N := by
  have h : sm (fun x => if p x - L x < p v - L v ∨ (p x - L x ≤ p v - L v ∧ t x < t v) then 1 else 0) N < sm (fun _ => 1) N := by
    refine (sm_lt N (fun x _ => ?_)).mpr ⟨v, hv, ?_⟩
    · split <;> decide
    · have h2 : ¬ (p v - L v < p v - L v ∨ (p v - L v ≤ p v - L v ∧ t v < t v)) := lx_ir (p := p) (L := L) (t := t)
      rw [if_neg h2]
      decide
  have e : ∀ m, sm (fun _ => 1) m = m := by
    intro m
    induction m with
    | zero => rfl
    | succ m ih =>
      show sm (fun _ => 1) m + 1 = m + 1
      rw [ih]
  rw [e] at h
  exact h
theorem pig : ∀ N T (f : Nat → Nat), (∀ j, j ≤ T → ∃ x, x < N ∧ f x = j) → T < N := by
  intro N
  induction N with
  | zero =>
    intro T f h
    obtain ⟨x, hx, -⟩ := h 0 (Nat.zero_le _)
    exact absurd hx (Nat.not_lt_zero _)
  | succ N ih =>
    intro T f h
    by_cases e : T = 0
    · omega
    · by_cases hc : f N ≤ T
      · have := ih (T - 1) (fun x => if f N < f x then f x - 1 else f x) (fun j hj => by
          by_cases h1 : j < f N
          · obtain ⟨x, hx, hfx⟩ := h j (by omega)
            have hxn : x ≠ N := fun ex => by
              subst ex
              omega
            exact ⟨x, by omega, by show (if f N < f x then f x - 1 else f x) = j; rw [if_neg (by omega)]; exact hfx⟩
          · obtain ⟨x, hx, hfx⟩ := h (j + 1) (by omega)
            have hxn : x ≠ N := fun ex => by
              subst ex
              omega
            exact ⟨x, by omega, by show (if f N < f x then f x - 1 else f x) = j; rw [if_pos (by omega)]; omega⟩)
        omega
      · have := ih T f (fun j hj => by
          obtain ⟨x, hx, hfx⟩ := h j hj
          have hxn : x ≠ N := fun ex => by
            subst ex
            omega
          exact ⟨x, by omega, hfx⟩)
        omega
theorem IV_tau {A : ArcT} {p : Nat → Int} {src : Nat → Prop} (hA : AOK A p) {s : LabT} {t τ : Nat → Nat} {c i k : Nat} (h : IV A p src s t τ c i k) : ∀ m v, v < 14 → s.1 v ≠ NOi → rkn p s.1 t 14 v ≤ m → ∀ j, j ≤ τ v → ∃ x, x < 14 ∧ τ x = j := by
  intro m
  induction m with
  | zero =>
    intro v hv hr hm j hj
    rcases (h.1 v hv hr).2.2.2.2 with ⟨-, -, -, h0⟩ | ⟨u, l, k', hk', ha, -, hur, -, hlx, hτ⟩
    · exact ⟨v, hv, by omega⟩
    · have := rkn_lt (N := 14) (hA k' u v l hk' ha).1 hlx
      omega
  | succ m ih =>
    intro v hv hr hm j hj
    rcases (h.1 v hv hr).2.2.2.2 with ⟨-, -, -, h0⟩ | ⟨u, l, k', hk', ha, -, hur, -, hlx, hτ⟩
    · exact ⟨v, hv, by omega⟩
    · have := rkn_lt (N := 14) (hA k' u v l hk' ha).1 hlx
      by_cases e : j = τ v
      · exact ⟨v, hv, e.symm⟩
      · exact ih u (hA k' u v l hk' ha).1 hur (by omega) j (by omega)
theorem IV_13 {A : ArcT} {p : Nat → Int} {src : Nat → Prop} (hA : AOK A p) {s : LabT} {t τ : Nat → Nat} {c i k : Nat} (h : IV A p src s t τ c i k) {v : Nat} (hv : v < 14) (hr : s.1 v ≠ NOi) : τ v < 14 := pig 14 (τ v) τ (IV_tau hA h _ v hv hr (Nat.le_refl _))
theorem IV_step {A : ArcT} {p : Nat → Int} {src : Nat → Prop} (hA : AOK A p) {s0 : LabT} {i : Nat} (hi : i ≤ 16) : ∀ k, k ≤ 48 → ∀ {t τ : Nat → Nat} {c : Nat}, IV A p src s0 t τ c i 0 → ∃ t' τ' c', IV A p src (rk A s0 k) t' τ' c' i k ∧ (14 ≤ i → rk A s0 k = s0) := by
  intro k
  induction k with
  | zero => exact fun _ t τ c h => ⟨t, τ, c, h, fun _ => rfl⟩
  | succ k ih =>
    intro hk t τ c h
    obtain ⟨t1, τ1, c1, h1, h2⟩ := ih (by omega) h
    rcases ha : A k with _ | ⟨u, v, l⟩
    · have e : rk A s0 (k + 1) = rk A s0 k := by
        show (match A k with | none => rk A s0 k | some (u, v, l) => rel u v l (rk A s0 k)) = _
        rw [ha]
      rw [e]
      exact ⟨t1, τ1, c1, IV_keep h1 (fun u v l h9 => by rw [ha] at h9; exact nomatch h9), h2⟩
    · have e : rk A s0 (k + 1) = rel u v l (rk A s0 k) := by
        show (match A k with | none => rk A s0 k | some (u, v, l) => rel u v l (rk A s0 k)) = _
        rw [ha]
      rw [e]
      by_cases hv : (rk A s0 k).1 u ≠ NOi ∧ (rk A s0 k).1 v < (rk A s0 k).1 u + l
      · rw [show rel u v l (rk A s0 k) = (upI (rk A s0 k).1 v ((rk A s0 k).1 u + l), updN (rk A s0 k).2 v u) from if_pos hv]
        have h3 := IV_rel hA h1 (by omega) hi ha hv
        refine ⟨_, _, _, h3, fun h14 => ?_⟩
        obtain ⟨hu14, hv14, -, -, -⟩ := hA k u v l (by omega) ha
        have hvr : (upI (rk A s0 k).1 v ((rk A s0 k).1 u + l), updN (rk A s0 k).2 v u).1 v ≠ NOi := by
          show upI (rk A s0 k).1 v ((rk A s0 k).1 u + l) v ≠ NOi
          rw [upI_s]
          have h8 := (h1.1 u hu14 hv.1).2.1
          have h9 := h1.2.2
          have h10 := (hA k u v l (by omega) ha).2.2.2.2
          unfold NOi
          omega
        have h4 := IV_13 hA h3 hv14 hvr
        rw [updN_s] at h4
        exact absurd h4 (by omega)
      · rw [show rel u v l (rk A s0 k) = rk A s0 k from if_neg hv]
        refine ⟨t1, τ1, c1, IV_keep h1 (fun u' v' l' h9 => ?_), h2⟩
        rw [ha] at h9
        have e1 := Option.some.inj h9
        have e2 : u = u' := congrArg Prod.fst e1
        have e3 : v = v' := congrArg (fun q => q.2.1) e1
        have e4 : l = l' := congrArg (fun q => q.2.2) e1
        subst e2 e3 e4
        exact hv
theorem IV_turn {A : ArcT} {p : Nat → Int} {src : Nat → Prop} {s : LabT} {t τ : Nat → Nat} {c i : Nat} (h : IV A p src s t τ c i 48) : IV A p src s t τ c (i + 1) 0 := by
  obtain ⟨h1, h2, h3⟩ := h
  refine ⟨fun v hv hr => ?_, fun k' u v l hk' ha hr hlt => ?_, by omega⟩
  · obtain ⟨g1, g2, g3, g4, g5⟩ := h1 v hv hr
    exact ⟨g1, g2, g3, by omega, g5⟩
  · have := (h2 k' u v l hk' ha hr hlt).1 hk'
    exact ⟨fun h => absurd h (Nat.not_lt_zero _), by omega⟩
/-- the begin: 0 at the sources, nothing elsewhere -/
def L0 (s : LabT) (src : Nat → Prop) : Prop := ∀ v, v < 14 → s.1 v ≠ NOi → src v ∧ s.1 v = 0 ∧ s.2 v = 99
theorem IV_0 {A : ArcT} {p : Nat → Int} {src : Nat → Prop} {s : LabT} (h : L0 s src) (hp : ∀ v, src v → 0 ≤ p v) : IV A p src s (fun _ => 0) (fun _ => 0) 0 1 0 := by
  refine ⟨fun v hv hr => ?_, fun k' u v l hk' ha hr hlt => ?_, by omega⟩
  · obtain ⟨h1, h2, h3⟩ := h v hv hr
    have := hp v h1
    exact ⟨by omega, by omega, Nat.zero_lt_one, Nat.zero_le _, Or.inl ⟨h1, h2, h3, rfl⟩⟩
  · exact ⟨fun h => absurd h (Nat.not_lt_zero _), Nat.le_refl _⟩
theorem IV_tn {A : ArcT} {p : Nat → Int} {src : Nat → Prop} (hA : AOK A p) {s : LabT} (h : L0 s src) (hp : ∀ v, src v → 0 ≤ p v) : ∀ i, i ≤ 15 → ∃ t τ c, IV A p src (tn A s i) t τ c (i + 1) 0 := by
  intro i
  induction i with
  | zero => exact fun _ => ⟨_, _, _, IV_0 h hp⟩
  | succ i ih =>
    intro hi
    obtain ⟨t, τ, c, h1⟩ := ih (by omega)
    obtain ⟨t', τ', c', h2, -⟩ := IV_step hA (show i + 1 ≤ 16 by omega) 48 (Nat.le_refl _) h1
    exact ⟨t', τ', c', IV_turn h2⟩
/-- behind thirteen turns nothing changes -/
theorem tn_fix {A : ArcT} {p : Nat → Int} {src : Nat → Prop} (hA : AOK A p) {s : LabT} (h : L0 s src) (hp : ∀ v, src v → 0 ≤ p v) : (∀ k, k ≤ 48 → rk A (tn A s 13) k = tn A s 13) ∧ ∀ j, tn A s (13 + j) = tn A s 13 := by
  obtain ⟨t, τ, c, h1⟩ := IV_tn hA h hp 13 (by decide)
  have h2 : ∀ k, k ≤ 48 → rk A (tn A s 13) k = tn A s 13 := fun k hk => by
    obtain ⟨t', τ', c', -, h3⟩ := IV_step hA (show 13 + 1 ≤ 16 by decide) k hk h1
    exact h3 (by decide)
  refine ⟨h2, fun j => ?_⟩
  induction j with
  | zero => rfl
  | succ j ih =>
    show rk A (tn A s (13 + j)) 48 = _
    rw [ih]
    exact h2 48 (Nat.le_refl _)
/-- an early end: a turn without a change -/
theorem tn_early {A : ArcT} {s : LabT} {i : Nat} (h : tn A s (i + 1) = tn A s i) : ∀ j, tn A s (i + j) = tn A s i := by
  intro j
  induction j with
  | zero => rfl
  | succ j ih =>
    show rk A (tn A s (i + j)) 48 = _
    rw [ih]
    exact h
/-- what the labels are at the end -/
def FIX (A : ArcT) (p : Nat → Int) (src : Nat → Prop) (s : LabT) (t : Nat → Nat) : Prop :=
  (∀ v, v < 14 → s.1 v ≠ NOi → s.1 v ≤ p v ∧ -1000000 < s.1 v ∧ ((src v ∧ s.1 v = 0 ∧ s.2 v = 99) ∨ ∃ u l k, k < 48 ∧ A k = some (u, v, l) ∧ s.2 v = u ∧ s.1 u ≠ NOi ∧ s.1 v = s.1 u + l ∧ lx p s.1 t u v)) ∧
  (∀ k u v l, k < 48 → A k = some (u, v, l) → s.1 u ≠ NOi → s.1 u + l ≤ s.1 v ∧ s.1 v ≠ NOi)
theorem tn_FIX {A : ArcT} {p : Nat → Int} {src : Nat → Prop} (hA : AOK A p) {s : LabT} (h : L0 s src) (hp : ∀ v, src v → 0 ≤ p v) : ∃ t, FIX A p src (tn A s 13) t := by
  obtain ⟨t, τ, c, h1⟩ := IV_tn hA h hp 13 (by decide)
  obtain ⟨hf, -⟩ := tn_fix hA h hp
  have hcl : ∀ k u v l, k < 48 → A k = some (u, v, l) → (tn A s 13).1 u ≠ NOi → (tn A s 13).1 u + l ≤ (tn A s 13).1 v := by
    intro k u v l hk ha hr
    have e := hf (k + 1) (by omega)
    have e2 : rk A (tn A s 13) (k + 1) = rel u v l (rk A (tn A s 13) k) := by
      show (match A k with | none => rk A (tn A s 13) k | some (u, v, l) => rel u v l (rk A (tn A s 13) k)) = _
      rw [ha]
    rw [e2, hf k (by omega)] at e
    by_cases hv : (tn A s 13).1 u ≠ NOi ∧ (tn A s 13).1 v < (tn A s 13).1 u + l
    · rw [show rel u v l (tn A s 13) = (upI (tn A s 13).1 v ((tn A s 13).1 u + l), updN (tn A s 13).2 v u) from if_pos hv] at e
      have e3 : upI (tn A s 13).1 v ((tn A s 13).1 u + l) v = (tn A s 13).1 v := congrFun (congrArg Prod.fst e) v
      rw [upI_s] at e3
      omega
    · by_cases h9 : (tn A s 13).1 v < (tn A s 13).1 u + l
      · exact absurd ⟨hr, h9⟩ hv
      · omega
  have hlow : ∀ v, v < 14 → (tn A s 13).1 v ≠ NOi → -700000 < (tn A s 13).1 v := fun v hv hr => by
    have g := (h1.1 v hv hr).2.1
    have g2 := h1.2.2
    omega
  refine ⟨t, fun v hv hr => ?_, fun k u v l hk ha hr => ⟨hcl k u v l hk ha hr, ?_⟩⟩
  · obtain ⟨g1, g2, g3, g4, g5⟩ := h1.1 v hv hr
    refine ⟨g1, by have := hlow v hv hr; omega, ?_⟩
    rcases g5 with ⟨s1, s2, s3, -⟩ | ⟨u, l, k, a1, a2, a3, a4, a5, a6, -⟩
    · exact Or.inl ⟨s1, s2, s3⟩
    · have := hcl k u v l a1 a2 a4
      exact Or.inr ⟨u, l, k, a1, a2, a3, a4, by omega, a6⟩
  · have h8 := hcl k u v l hk ha hr
    have h9 := hlow u (hA k u v l hk ha).1 hr
    have h10 := (hA k u v l hk ha).2.2.2.2
    unfold NOi
    omega
