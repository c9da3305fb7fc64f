/-! FLOWS: throws taken and given back -/
abbrev EdT := Nat → Nat → Bool
def dD (T : EdT) (d : Nat) : Nat := sm (fun s => if T d s = true then 1 else 0) 8
def dS (T : EdT) (s : Nat) : Nat := sm (fun d => if T d s = true then 1 else 0) 6
def stT (T : EdT) (d s : Nat) (b : Bool) : EdT := fun d' s' => if d' = d ∧ s' = s then b else T d' s'
theorem stT_s {T : EdT} {d s : Nat} {b : Bool} : stT T d s b d s = b := if_pos ⟨rfl, rfl⟩
theorem stT_n {T : EdT} {d s d' s' : Nat} {b : Bool} (h : ¬ (d' = d ∧ s' = s)) : stT T d s b d' s' = T d' s' := if_neg h
theorem sm_chg {f g : Nat → Nat} {i : Nat} (hg : ∀ k, k ≠ i → f k = g k) : ∀ N, i < N → sm f N + g i = sm g N + f i := by
  intro N
  induction N with
  | zero => exact fun h => absurd h (Nat.not_lt_zero _)
  | succ N ih =>
    intro h
    show sm f N + f N + g i = sm g N + g N + f i
    by_cases e : i = N
    · subst e
      rw [sm_congr (g := g) i (fun k hk => hg k (by omega))]
      omega
    · have := ih (by omega)
      have h2 := hg N (fun e2 => e e2.symm)
      omega
theorem dD_st {T : EdT} {d s : Nat} {b : Bool} (hs : s < 8) (d' : Nat) : dD (stT T d s b) d' + (if d' = d ∧ T d s = true then 1 else 0) = dD T d' + (if d' = d ∧ b = true then 1 else 0) := by
  by_cases e : d' = d
  · subst e
    have h := sm_chg (f := fun x => if stT T d' s b d' x = true then 1 else 0) (g := fun x => if T d' x = true then 1 else 0) (i := s) (fun k hk => by show (if stT T d' s b d' k = true then 1 else 0) = _; rw [stT_n (fun h => hk h.2)]) 8 hs
    have h2 : (if stT T d' s b d' s = true then 1 else 0) = if b = true then 1 else 0 := by rw [stT_s]
    have e1 : (if d' = d' ∧ T d' s = true then 1 else 0) = if T d' s = true then 1 else 0 := by
      by_cases h3 : T d' s = true
      · rw [if_pos ⟨rfl, h3⟩, if_pos h3]
      · rw [if_neg (fun h => h3 h.2), if_neg h3]
    have e2 : (if d' = d' ∧ b = true then 1 else 0) = if b = true then 1 else 0 := by
      by_cases h3 : b = true
      · rw [if_pos ⟨rfl, h3⟩, if_pos h3]
      · rw [if_neg (fun h => h3 h.2), if_neg h3]
    rw [e1, e2, ← h2]
    exact h
  · rw [if_neg (fun h => e h.1), if_neg (fun h => e h.1)]
    unfold dD
    rw [sm_congr (g := fun x => if T d' x = true then 1 else 0) 8 (fun k _ => by show (if stT T d s b d' k = true then 1 else 0) = _; rw [stT_n (fun h => e h.1)])]
theorem dS_st {T : EdT} {d s : Nat} {b : Bool} (hd : d < 6) (s' : Nat) : dS (stT T d s b) s' + (if s' = s ∧ T d s = true then 1 else 0) = dS T s' + (if s' = s ∧ b = true then 1 else 0) := by
  by_cases e : s' = s
  · subst e
    have h := sm_chg (f := fun x => if stT T d s' b x s' = true then 1 else 0) (g := fun x => if T x s' = true then 1 else 0) (i := d) (fun k hk => by show (if stT T d s' b k s' = true then 1 else 0) = _; rw [stT_n (fun h => hk h.1)]) 6 hd
    have h2 : (if stT T d s' b d s' = true then 1 else 0) = if b = true then 1 else 0 := by rw [stT_s]
    have e1 : (if s' = s' ∧ T d s' = true then 1 else 0) = if T d s' = true then 1 else 0 := by
      by_cases h3 : T d s' = true
      · rw [if_pos ⟨rfl, h3⟩, if_pos h3]
      · rw [if_neg (fun h => h3 h.2), if_neg h3]
    have e2 : (if s' = s' ∧ b = true then 1 else 0) = if b = true then 1 else 0 := by
      by_cases h3 : b = true
      · rw [if_pos ⟨rfl, h3⟩, if_pos h3]
      · rw [if_neg (fun h => h3 h.2), if_neg h3]
    rw [e1, e2, ← h2]
    exact h
  · rw [if_neg (fun h => e h.1), if_neg (fun h => e h.1)]
    unfold dS
    rw [sm_congr (g := fun x => if T x s' = true then 1 else 0) 6 (fun k _ => by show (if stT T d s b k s' = true then 1 else 0) = _; rw [stT_n (fun h => e h.2)])]
theorem dD_t {T : EdT} {d s : Nat} (hs : s < 8) (hT : T d s = false) (d' : Nat) : dD (stT T d s true) d' = dD T d' + (if d' = d then 1 else 0) := by
  have h := dD_st (T := T) (d := d) (b := true) hs d'
  rw [hT] at h
  by_cases e : d' = d
  · rw [if_neg (show ¬ (d' = d ∧ false = true) from fun h9 => absurd h9.2 (by decide)), if_pos (show d' = d ∧ true = true from ⟨e, rfl⟩)] at h
    rw [if_pos e]
    exact h
  · rw [if_neg (show ¬ (d' = d ∧ false = true) from fun h9 => absurd h9.2 (by decide)), if_neg (show ¬ (d' = d ∧ true = true) from fun h9 => e h9.1)] at h
    rw [if_neg e]
    exact h
theorem dD_f {T : EdT} {d s : Nat} (hs : s < 8) (hT : T d s = true) (d' : Nat) : dD (stT T d s false) d' + (if d' = d then 1 else 0) = dD T d' := by
  have h := dD_st (T := T) (d := d) (b := false) hs d'
  rw [hT] at h
  by_cases e : d' = d
  · rw [if_neg (show ¬ (d' = d ∧ false = true) from fun h9 => absurd h9.2 (by decide)), if_pos (show d' = d ∧ true = true from ⟨e, rfl⟩)] at h
    rw [if_pos e]
    exact h
  · rw [if_neg (show ¬ (d' = d ∧ false = true) from fun h9 => absurd h9.2 (by decide)), if_neg (show ¬ (d' = d ∧ true = true) from fun h9 => e h9.1)] at h
    rw [if_neg e]
    exact h
theorem dS_t {T : EdT} {d s : Nat} (hd : d < 6) (hT : T d s = false) (d' : Nat) : dS (stT T d s true) d' = dS T d' + (if d' = s then 1 else 0) := by
  have h := dS_st (T := T) (s := s) (b := true) hd d'
  rw [hT] at h
  by_cases e : d' = s
  · rw [if_neg (show ¬ (d' = s ∧ false = true) from fun h9 => absurd h9.2 (by decide)), if_pos (show d' = s ∧ true = true from ⟨e, rfl⟩)] at h
    rw [if_pos e]
    exact h
  · rw [if_neg (show ¬ (d' = s ∧ false = true) from fun h9 => absurd h9.2 (by decide)), if_neg (show ¬ (d' = s ∧ true = true) from fun h9 => e h9.1)] at h
    rw [if_neg e]
    exact h
theorem dS_f {T : EdT} {d s : Nat} (hd : d < 6) (hT : T d s = true) (d' : Nat) : dS (stT T d s false) d' + (if d' = s then 1 else 0) = dS T d' := by
  have h := dS_st (T := T) (s := s) (b := false) hd d'
  rw [hT] at h
  by_cases e : d' = s
  · rw [if_neg (show ¬ (d' = s ∧ false = true) from fun h9 => absurd h9.2 (by decide)), if_pos (show d' = s ∧ true = true from ⟨e, rfl⟩)] at h
    rw [if_pos e]
    exact h
  · rw [if_neg (show ¬ (d' = s ∧ false = true) from fun h9 => absurd h9.2 (by decide)), if_neg (show ¬ (d' = s ∧ true = true) from fun h9 => e h9.1)] at h
    rw [if_neg e]
    exact h
def fA (T E : EdT) (w : Nat → Nat → Int) : ArcT := fun k => if T (k / 8) (k % 8) = true then some (6 + k % 8, k / 8, - w (k / 8) (k % 8)) else if E (k / 8) (k % 8) = true then some (k / 8, 6 + k % 8, w (k / 8) (k % 8)) else none
theorem fA_inv {T E : EdT} {w : Nat → Nat → Int} {k u v : Nat} {l : Int} (hk : k < 48) (h : fA T E w k = some (u, v, l)) : ∃ d s, d < 6 ∧ s < 8 ∧ k = 8 * d + s ∧ ((T d s = true ∧ u = 6 + s ∧ v = d ∧ l = - w d s) ∨ (T d s = false ∧ E d s = true ∧ u = d ∧ v = 6 + s ∧ l = w d s)) := by
  refine ⟨k / 8, k % 8, by omega, by omega, by omega, ?_⟩
  unfold fA at h
  by_cases h1 : T (k / 8) (k % 8) = true
  · rw [if_pos h1] at h
    have e1 := Option.some.inj h
    exact Or.inl ⟨h1, (congrArg Prod.fst e1).symm, (congrArg (fun q => q.2.1) e1).symm, (congrArg (fun q => q.2.2) e1).symm⟩
  · rw [if_neg h1] at h
    by_cases h2 : E (k / 8) (k % 8) = true
    · rw [if_pos h2] at h
      have e1 := Option.some.inj h
      exact Or.inr ⟨Bool.eq_false_iff.mpr h1, h2, (congrArg Prod.fst e1).symm, (congrArg (fun q => q.2.1) e1).symm, (congrArg (fun q => q.2.2) e1).symm⟩
    · rw [if_neg h2] at h
      exact nomatch h
theorem fA_t {T E : EdT} {w : Nat → Nat → Int} {d s : Nat} (hs : s < 8) (h : T d s = true) : fA T E w (8 * d + s) = some (6 + s, d, - w d s) := by
  unfold fA
  rw [show (8 * d + s) / 8 = d by omega, show (8 * d + s) % 8 = s by omega, if_pos h]
theorem fA_e {T E : EdT} {w : Nat → Nat → Int} {d s : Nat} (hs : s < 8) (h : T d s = false) (he : E d s = true) : fA T E w (8 * d + s) = some (d, 6 + s, w d s) := by
  unfold fA
  rw [show (8 * d + s) / 8 = d by omega, show (8 * d + s) % 8 = s by omega, if_neg (by rw [h]; decide), if_pos he]
/-- what prices say of throws taken -/
def PV (E T : EdT) (w : Nat → Nat → Int) (r nd : Nat) (p : Nat → Int) (G : Int) : Prop :=
  (∀ d s, d < 6 → s < 8 → T d s = true → E d s = true ∧ p (6 + s) ≤ p d + w d s) ∧
  (∀ d s, d < 6 → s < 8 → E d s = true → T d s = false → p d + w d s ≤ p (6 + s)) ∧
  (∀ d, d < nd → d < 6 → dD T d < r → 0 ≤ p d) ∧ (∀ d, d < 6 → 0 < dD T d → p d ≤ 0) ∧
  (∀ s, s < 8 → dS T s < r → p (6 + s) ≤ G) ∧ (∀ s, s < 8 → 0 < dS T s → G ≤ p (6 + s)) ∧
  (∀ d, d < 6 → dD T d ≤ r) ∧ (∀ s, s < 8 → dS T s ≤ r) ∧ 0 ≤ G
def WB (w : Nat → Nat → Int) : Prop := ∀ d s, 0 ≤ w d s ∧ w d s ≤ 1000
def srcF (T : EdT) (r nd : Nat) (v : Nat) : Prop := v < 6 ∧ v < nd ∧ dD T v < r
theorem PV_AOK {E T : EdT} {w : Nat → Nat → Int} {r nd : Nat} {p : Nat → Int} {G : Int} (h : PV E T w r nd p G) (hw : WB w) : AOK (fA T E w) p := by
  intro k u v l hk ha
  obtain ⟨d, s, hd, hs, -, ⟨h1, rfl, rfl, rfl⟩ | ⟨h1, h2, rfl, rfl, rfl⟩⟩ := fA_inv hk ha
  · have := h.1 _ s hd hs h1
    have := hw v s
    exact ⟨by omega, by omega, by omega, by omega, by omega⟩
  · have := h.2.1 _ s hd hs h2 h1
    have := hw u s
    exact ⟨by omega, by omega, by omega, by omega, by omega⟩
def CH (F : Nat → Nat) : Nat → Nat → Prop
  | 0, s => F (F (6 + s)) = 99
  | n + 1, s => ∃ s', s' < 8 ∧ F (F (6 + s)) = 6 + s' ∧ CH F n s'
def fl (F : Nat → Nat) : Nat → Nat → EdT → EdT
  | 0, s, T => stT T (F (6 + s)) s true
  | n + 1, s, T => fl F n (F (F (6 + s)) - 6) (stT (stT T (F (6 + s)) s true) (F (6 + s)) (F (F (6 + s)) - 6) false)
def endD (F : Nat → Nat) : Nat → Nat → Nat
  | 0, s => F (6 + s)
  | n + 1, s => endD F n (F (F (6 + s)) - 6)
/-- behind a spade that is reached stands a digger -/
theorem FIX_S {T E : EdT} {w : Nat → Nat → Int} {p : Nat → Int} {r nd : Nat} {x : LabT} {t : Nat → Nat} (h : FIX (fA T E w) p (srcF T r nd) x t) {s : Nat} (hs : s < 8) (hr : x.1 (6 + s) ≠ NOi) : x.2 (6 + s) < 6 ∧ x.1 (x.2 (6 + s)) ≠ NOi ∧ T (x.2 (6 + s)) s = false ∧ E (x.2 (6 + s)) s = true ∧ x.1 (6 + s) = x.1 (x.2 (6 + s)) + w (x.2 (6 + s)) s ∧ lx p x.1 t (x.2 (6 + s)) (6 + s) := by
  obtain ⟨-, -, h1⟩ := h.1 (6 + s) (by omega) hr
  rcases h1 with ⟨⟨h1, -⟩, -⟩ | ⟨u, l, k, hk, ha, h2, h3, h4, h5⟩
  · exact absurd h1 (by omega)
  · obtain ⟨d, s', hd, hs', -, ⟨-, -, e, -⟩ | ⟨g1, g2, rfl, g4, rfl⟩⟩ := fA_inv hk ha
    · exact absurd e (by omega)
    · obtain rfl : s = s' := by omega
      rw [h2]
      exact ⟨hd, h3, g1, g2, h4, h5⟩
/-- behind a digger stands nothing, where it is a source, or a spade -/
theorem FIX_D {T E : EdT} {w : Nat → Nat → Int} {p : Nat → Int} {r nd : Nat} {x : LabT} {t : Nat → Nat} (h : FIX (fA T E w) p (srcF T r nd) x t) {d : Nat} (hd : d < 6) (hr : x.1 d ≠ NOi) : (srcF T r nd d ∧ x.1 d = 0 ∧ x.2 d = 99) ∨ ∃ s', s' < 8 ∧ x.2 d = 6 + s' ∧ x.1 (6 + s') ≠ NOi ∧ T d s' = true ∧ x.1 d = x.1 (6 + s') - w d s' ∧ lx p x.1 t (6 + s') d := by
  obtain ⟨-, -, h1⟩ := h.1 d (by omega) hr
  rcases h1 with h1 | ⟨u, l, k, hk, ha, h2, h3, h4, h5⟩
  · exact Or.inl h1
  · obtain ⟨d', s', hd', hs', -, ⟨g1, rfl, rfl, rfl⟩ | ⟨-, -, -, e, -⟩⟩ := fA_inv hk ha
    · exact Or.inr ⟨s', hs', h2, h3, g1, by omega, h5⟩
    · exact absurd e (by omega)
theorem FIX_CH {T E : EdT} {w : Nat → Nat → Int} {p : Nat → Int} {r nd : Nat} {x : LabT} {t : Nat → Nat} (h : FIX (fA T E w) p (srcF T r nd) x t) : ∀ m s, s < 8 → x.1 (6 + s) ≠ NOi → rkn p x.1 t 6 (x.2 (6 + s)) ≤ m → ∃ n, n ≤ m ∧ CH x.2 n s := by
  intro m
  induction m with
  | zero =>
    intro s hs hr hm
    obtain ⟨hd, hdr, -, -, -, -⟩ := FIX_S h hs hr
    rcases FIX_D h hd hdr with ⟨-, -, h1⟩ | ⟨s', hs', -, hr', -, -, h5⟩
    · exact ⟨0, Nat.le_refl _, h1⟩
    · have h6 := FIX_S h hs' hr'
      have := rkn_lt (N := 6) h6.1 (lx_tr h6.2.2.2.2.2 h5)
      omega
  | succ m ih =>
    intro s hs hr hm
    obtain ⟨hd, hdr, -, -, -, -⟩ := FIX_S h hs hr
    rcases FIX_D h hd hdr with ⟨-, -, h1⟩ | ⟨s', hs', h2, hr', -, -, h5⟩
    · exact ⟨0, Nat.zero_le _, h1⟩
    · have h6 := FIX_S h hs' hr'
      have := rkn_lt (N := 6) h6.1 (lx_tr h6.2.2.2.2.2 h5)
      obtain ⟨n, hn, hc⟩ := ih s' hs' hr' (by omega)
      exact ⟨n + 1, by omega, s', hs', h2, hc⟩
theorem FIX_CH5 {T E : EdT} {w : Nat → Nat → Int} {p : Nat → Int} {r nd : Nat} {x : LabT} {t : Nat → Nat} (h : FIX (fA T E w) p (srcF T r nd) x t) {s : Nat} (hs : s < 8) (hr : x.1 (6 + s) ≠ NOi) : ∃ n, n ≤ 5 ∧ CH x.2 n s := by
  have h1 := rkn_le (p := p) (L := x.1) (t := t) (N := 6) (FIX_S h hs hr).1
  exact FIX_CH h 5 s hs hr (by omega)
/-- a chain, turned over -/
theorem FLIP {T0 E : EdT} {w : Nat → Nat → Int} {p q : Nat → Int} {r nd : Nat} {x : LabT} {t : Nat → Nat} (h : FIX (fA T0 E w) p (srcF T0 r nd) x t)
    (hq1 : ∀ v, v < 14 → x.1 v ≠ NOi → x.1 v ≤ q v) (hq2 : ∀ k u v l, k < 48 → fA T0 E w k = some (u, v, l) → q u + l ≤ q v) (hTE : ∀ d s, d < 6 → s < 8 → T0 d s = true → E d s = true) : ∀ n s T, s < 8 → x.1 (6 + s) ≠ NOi → CH x.2 n s → q (6 + s) = x.1 (6 + s) → (∀ d y, d < 6 → y < 8 → lx p x.1 t d (6 + s) → T d y = T0 d y) →
    (∀ d y, d < 6 → y < 8 → fl x.2 n s T d y ≠ T d y → E d y = true ∧ q (6 + y) = q d + w d y) ∧
    ∃ d0, d0 = endD x.2 n s ∧ d0 < 6 ∧ srcF T0 r nd d0 ∧ q d0 = 0 ∧ (∀ d, d < 6 → dD (fl x.2 n s T) d = dD T d + (if d = d0 then 1 else 0)) ∧ (∀ y, y < 8 → dS (fl x.2 n s T) y = dS T y + (if y = s then 1 else 0)) := by
  intro n
  induction n with
  | zero =>
    intro s T hs hr hc hqs hrow
    obtain ⟨hd, hdr, h1, h2, h3, h4⟩ := FIX_S h hs hr
    have hc0 : x.2 (x.2 (6 + s)) = 99 := hc
    generalize hde : x.2 (6 + s) = d at *
    have hT : T d s = false := (hrow d s hd hs h4).trans h1
    have hq3 := hq2 (8 * d + s) d (6 + s) (w d s) (by omega) (fA_e hs h1 h2)
    have hq4 := hq1 d (by omega) hdr
    have hqd : q d = x.1 d := by omega
    rcases FIX_D h hd hdr with ⟨g1, g2, -⟩ | ⟨s', hs', g2, -⟩
    · have efl : fl x.2 0 s T = stT T d s true := by
        show stT T (x.2 (6 + s)) s true = _
        rw [hde]
      rw [efl]
      refine ⟨fun d' y hd' hy hne => ?_, d, (show d = x.2 (6 + s) from hde.symm), hd, g1, by omega, fun d' hd' => ?_, fun y hy => ?_⟩
      · by_cases e : d' = d ∧ y = s
        · obtain ⟨rfl, rfl⟩ := e
          exact ⟨h2, by omega⟩
        · exact absurd (stT_n e) hne
      · exact dD_t hs hT d'
      · exact dS_t hd hT y
    · omega
  | succ n ih =>
    intro s T hs hr hc hqs hrow
    obtain ⟨hd, hdr, h1, h2, h3, h4⟩ := FIX_S h hs hr
    obtain ⟨s', hs', hc1, hc2⟩ := hc
    have efl : fl x.2 (n + 1) s T = fl x.2 n s' (stT (stT T (x.2 (6 + s)) s true) (x.2 (6 + s)) s' false) := by
      show fl x.2 n (x.2 (x.2 (6 + s)) - 6) (stT (stT T (x.2 (6 + s)) s true) (x.2 (6 + s)) (x.2 (x.2 (6 + s)) - 6) false) = _
      rw [hc1, Nat.add_sub_cancel_left]
    have hend : endD x.2 n s' = endD x.2 (n + 1) s := by
      show _ = endD x.2 n (x.2 (x.2 (6 + s)) - 6)
      rw [hc1, Nat.add_sub_cancel_left]
    rw [efl]
    generalize hde : x.2 (6 + s) = d at hd hdr h1 h2 h3 h4 hc1 ⊢
    have hT : T d s = false := (hrow d s hd hs h4).trans h1
    have hq3 := hq2 (8 * d + s) d (6 + s) (w d s) (by omega) (fA_e hs h1 h2)
    have hq4 := hq1 d (by omega) hdr
    have hqd : q d = x.1 d := by omega
    rcases FIX_D h hd hdr with ⟨-, -, g3⟩ | ⟨s2, hs2, g2, g3, g4, g5, g6⟩
    · omega
    · obtain rfl : s' = s2 := by omega
      have hT2 : T d s' = true := (hrow d s' hd hs' h4).trans g4
      have hne : ¬ s' = s := fun e => by
        rw [e] at g4
        rw [g4] at h1
        exact absurd h1 (by decide)
      have hq5 := hq2 (8 * d + s') (6 + s') d (- w d s') (by omega) (fA_t hs' g4)
      have hq6 := hq1 (6 + s') (by omega) g3
      have hqs' : q (6 + s') = x.1 (6 + s') := by omega
      have hT3 : stT T d s true d s' = true := (stT_n (fun e => hne e.2)).trans hT2
      obtain ⟨i1, d0, i0, i2, i3, i4, i5, i6⟩ := ih s' (stT (stT T d s true) d s' false) hs' g3 hc2 hqs' (fun d2 y hd2 hy hl => by
        have hd3 : ¬ d2 = d := fun e => by
          rw [e] at hl
          exact lx_ir (lx_tr hl g6)
        rw [stT_n (fun e => hd3 e.1), stT_n (fun e => hd3 e.1)]
        exact hrow d2 y hd2 hy (lx_tr hl (lx_tr g6 h4)))
      refine ⟨fun d2 y hd2 hy hn => ?_, d0, i0.trans hend, i2, i3, i4, fun d2 hd2 => ?_, fun y hy => ?_⟩
      · by_cases e1 : d2 = d ∧ y = s
        · obtain ⟨rfl, rfl⟩ := e1
          exact ⟨h2, by omega⟩
        · by_cases e2 : d2 = d ∧ y = s'
          · obtain ⟨rfl, rfl⟩ := e2
            exact ⟨hTE d2 y hd2 hs' g4, by omega⟩
          · exact i1 d2 y hd2 hy (fun e3 => hn (by rw [e3, stT_n e2, stT_n e1]))
      · have a1 := dD_f (T := stT T d s true) hs' hT3 d2
        have a2 := dD_t (T := T) hs hT d2
        have a3 := i5 d2 hd2
        omega
      · have a1 := dS_f (T := stT T d s true) hd hT3 y
        have a2 := dS_t (T := T) hd hT y
        have a3 := i6 y hy
        omega
/-- the prices behind a search -/
def q' (L p : Nat → Int) (D : Int) (v : Nat) : Int := if L v ≠ NOi then max (L v) (p v - D) else p v - D
theorem q'_r {L p : Nat → Int} {D : Int} {v : Nat} (h : L v ≠ NOi) : q' L p D v = max (L v) (p v - D) := if_pos h
theorem q'_n {L p : Nat → Int} {D : Int} {v : Nat} (h : ¬ L v ≠ NOi) : q' L p D v = p v - D := if_neg h
theorem q'_ge {L p : Nat → Int} {D : Int} {v : Nat} : p v - D ≤ q' L p D v := by
  by_cases h : L v ≠ NOi
  · rw [q'_r h]
    omega
  · rw [q'_n h]
    exact Int.le_refl _
theorem q'_arc {A : ArcT} {p : Nat → Int} {src : Nat → Prop} {x : LabT} {t : Nat → Nat} (hA : AOK A p) (h : FIX A p src x t) {D : Int} : ∀ k u v l, k < 48 → A k = some (u, v, l) → q' x.1 p D u + l ≤ q' x.1 p D v := by
  intro k u v l hk ha
  have h1 := (hA k u v l hk ha).2.2.2.1
  have h3 := q'_ge (L := x.1) (p := p) (D := D) (v := v)
  by_cases hr : x.1 u ≠ NOi
  · obtain ⟨g1, g2⟩ := h.2 k u v l hk ha hr
    rw [q'_r hr, q'_r g2]
    omega
  · rw [q'_n hr]
    omega
theorem q'_le {A : ArcT} {p : Nat → Int} {src : Nat → Prop} {x : LabT} {t : Nat → Nat} (h : FIX A p src x t) {D : Int} (hD : 0 ≤ D) {v : Nat} (hv : v < 14) : q' x.1 p D v ≤ p v := by
  by_cases hr : x.1 v ≠ NOi
  · have := (h.1 v hv hr).1
    rw [q'_r hr]
    omega
  · rw [q'_n hr]
    omega
/-- prices for the same throws, with what is left to gain -/
theorem PV_same {E T : EdT} {w : Nat → Nat → Int} {r nd : Nat} {p : Nat → Int} {G Gn : Int} {x : LabT} {t : Nat → Nat} (hP : PV E T w r nd p G) (hw : WB w) (hT : FIX (fA T E w) p (srcF T r nd) x t) (hsrc : ∀ d, srcF T r nd d → x.1 d ≠ NOi ∧ 0 ≤ x.1 d) (hG : 0 ≤ Gn) (hGn : Gn ≤ G) (hmax : ∀ s, s < 8 → dS T s < r → x.1 (6 + s) ≠ NOi → x.1 (6 + s) ≤ Gn) : PV E T w r nd (q' x.1 p (G - Gn)) Gn := by
  have hA := PV_AOK hP hw
  have harc := q'_arc hA hT (D := G - Gn)
  obtain ⟨h1, h2, h3, h4, h5, h6, h7, h8, h9⟩ := hP
  refine ⟨fun d s hd hs ht => ⟨(h1 d s hd hs ht).1, ?_⟩, fun d s hd hs he ht => ?_, fun d hn hd hr => ?_, fun d hd hr => ?_, fun s hs hr => ?_, fun s hs hr => ?_, h7, h8, hG⟩
  · have := harc (8 * d + s) (6 + s) d (- w d s) (by omega) (fA_t hs ht)
    omega
  · exact harc (8 * d + s) d (6 + s) (w d s) (by omega) (fA_e hs ht he)
  · obtain ⟨g1, g2⟩ := hsrc d ⟨hd, hn, hr⟩
    rw [q'_r g1]
    omega
  · have := h4 d hd hr
    have := q'_le hT (D := G - Gn) (by omega) (show d < 14 by omega)
    omega
  · have g1 := h5 s hs hr
    by_cases hre : x.1 (6 + s) ≠ NOi
    · have := hmax s hs hr hre
      rw [q'_r hre]
      omega
    · rw [q'_n hre]
      omega
  · have g1 := h6 s hs hr
    have := q'_ge (L := x.1) (p := p) (D := G - Gn) (v := 6 + s)
    omega
/-- one throw more -/
theorem PV_aug {E T : EdT} {w : Nat → Nat → Int} {r nd : Nat} {p : Nat → Int} {G : Int} {x : LabT} {t : Nat → Nat} (hP : PV E T w r nd p G) (hw : WB w) (hT : FIX (fA T E w) p (srcF T r nd) x t) (hsrc : ∀ d, srcF T r nd d → x.1 d ≠ NOi ∧ 0 ≤ x.1 d) {s : Nat} (hs : s < 8) (hsr : dS T s < r) (hre : x.1 (6 + s) ≠ NOi) (hpos : 0 ≤ x.1 (6 + s)) (hmax : ∀ s', s' < 8 → dS T s' < r → x.1 (6 + s') ≠ NOi → x.1 (6 + s') ≤ x.1 (6 + s)) {n : Nat} (hc : CH x.2 n s) :
    ∃ p', PV E (fl x.2 n s T) w r nd p' (x.1 (6 + s)) ∧ ∃ d0, d0 = endD x.2 n s ∧ d0 < 6 ∧ srcF T r nd d0 ∧ (∀ d, d < 6 → dD (fl x.2 n s T) d = dD T d + (if d = d0 then 1 else 0)) ∧ ∀ y, y < 8 → dS (fl x.2 n s T) y = dS T y + (if y = s then 1 else 0) := by
  have hle : x.1 (6 + s) ≤ G := Int.le_trans (hT.1 (6 + s) (by omega) hre).1 (hP.2.2.2.2.1 s hs hsr)
  have hA := PV_AOK hP hw
  have hq := PV_same hP hw hT hsrc hpos hle hmax
  have hqs : q' x.1 p (G - x.1 (6 + s)) (6 + s) = x.1 (6 + s) := by
    have := hP.2.2.2.2.1 s hs hsr
    rw [q'_r hre]
    omega
  obtain ⟨f1, d0, f0, f2, f3, f4, f5, f6⟩ := FLIP hT (q := q' x.1 p (G - x.1 (6 + s))) (fun v _ hr => by rw [q'_r hr]; omega) (q'_arc hA hT) (fun d s hd hs ht => (hP.1 d s hd hs ht).1) n s T hs hre hc hqs (fun _ _ _ _ _ => rfl)
  obtain ⟨h1, h2, h3, h4, h5, h6, h7, h8, h9⟩ := hq
  refine ⟨q' x.1 p (G - x.1 (6 + s)), ⟨fun d y hd hy ht => ?_, fun d y hd hy he ht => ?_, fun d hn hd hr => ?_, fun d hd hr => ?_, fun y hy hr => ?_, fun y hy hr => ?_, fun d hd => ?_, fun y hy => ?_, h9⟩, d0, f0, f2, f3, f5, f6⟩
  · by_cases e : fl x.2 n s T d y = T d y
    · rw [e] at ht
      exact h1 d y hd hy ht
    · obtain ⟨g1, g2⟩ := f1 d y hd hy e
      exact ⟨g1, by omega⟩
  · by_cases e : fl x.2 n s T d y = T d y
    · rw [e] at ht
      exact h2 d y hd hy he ht
    · obtain ⟨g1, g2⟩ := f1 d y hd hy e
      omega
  · have g := f5 d hd
    by_cases e : d = d0
    · rw [e]
      omega
    · rw [if_neg e] at g
      exact h3 d hn hd (by omega)
  · have g := f5 d hd
    by_cases e : d = d0
    · rw [e]
      omega
    · rw [if_neg e] at g
      exact h4 d hd (by omega)
  · have g := f6 y hy
    by_cases e : y = s
    · rw [e]
      omega
    · rw [if_neg e] at g
      exact h5 y hy (by omega)
  · have g := f6 y hy
    by_cases e : y = s
    · rw [e]
      omega
    · rw [if_neg e] at g
      exact h6 y hy (by omega)
  · have g := f5 d hd
    have g2 := h7 d hd
    by_cases e : d = d0
    · have g3 := f3.2.2
      rw [← e] at g3
      rw [if_pos e] at g
      omega
    · rw [if_neg e] at g
      omega
  · have g := f6 y hy
    have g2 := h8 y hy
    by_cases e : y = s
    · rw [if_pos e] at g
      rw [← e] at hsr
      omega
    · rw [if_neg e] at g
      omega
