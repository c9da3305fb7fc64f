/-! FLOWS: the most that can be had; and a round that leaves what is needed -/
theorem rel_mono {u v : Nat} {l : Int} {s : LabT} (x : Nat) : s.1 x ≤ (rel u v l s).1 x := by
  by_cases h : s.1 u ≠ NOi ∧ s.1 v < s.1 u + l
  · rw [show rel u v l s = (upI s.1 v (s.1 u + l), updN s.2 v u) from if_pos h]
    show s.1 x ≤ upI s.1 v (s.1 u + l) x
    by_cases e : x = v
    · subst e
      rw [upI_s]
      omega
    · rw [upI_n e]
      exact Int.le_refl _
  · rw [show rel u v l s = s from if_neg h]
    exact Int.le_refl _
theorem rk_mono {A : ArcT} {s : LabT} (x : Nat) : ∀ k, s.1 x ≤ (rk A s k).1 x := by
  intro k
  induction k with
  | zero => exact Int.le_refl _
  | succ k ih =>
    rcases ha : A k with _ | ⟨u, v, l⟩
    · have e : rk A s (k + 1) = rk A s k := by
        show (match A k with | none => rk A s k | some (u, v, l) => rel u v l (rk A s k)) = _
        rw [ha]
      rw [e]
      exact ih
    · have e : rk A s (k + 1) = rel u v l (rk A s k) := by
        show (match A k with | none => rk A s k | some (u, v, l) => rel u v l (rk A s k)) = _
        rw [ha]
      rw [e]
      exact Int.le_trans ih (rel_mono x)
theorem tn_mono {A : ArcT} {s : LabT} (x : Nat) : ∀ i, s.1 x ≤ (tn A s i).1 x := by
  intro i
  induction i with
  | zero => exact Int.le_refl _
  | succ i ih => exact Int.le_trans ih (rk_mono x 48)
/-- how a search begins -/
def ini (T : EdT) (r nd : Nat) : LabT := (fun v => if v < 6 ∧ v < nd ∧ dD T v < r then 0 else NOi, fun _ => 99)
theorem ini_L0 {T : EdT} {r nd : Nat} : L0 (ini T r nd) (srcF T r nd) := by
  intro v _ hr
  by_cases h : v < 6 ∧ v < nd ∧ dD T v < r
  · exact ⟨h, if_pos h, rfl⟩
  · exact absurd (if_neg h : (ini T r nd).1 v = NOi) hr
/-- the labels of a search -/
def fin_ (T E : EdT) (w : Nat → Nat → Int) (r nd : Nat) : LabT := tn (fA T E w) (ini T r nd) 13
theorem fin_src {T E : EdT} {w : Nat → Nat → Int} {r nd : Nat} (d : Nat) (h : srcF T r nd d) : (fin_ T E w r nd).1 d ≠ NOi ∧ 0 ≤ (fin_ T E w r nd).1 d := by
  have h1 := tn_mono (A := fA T E w) (s := ini T r nd) d 13
  have h2 : (ini T r nd).1 d = 0 := if_pos h
  rw [h2] at h1
  refine ⟨fun e => ?_, h1⟩
  have h3 : 0 ≤ (fin_ T E w r nd).1 d := h1
  rw [e] at h3
  exact absurd h3 (by decide)
theorem fin_FIX {T E : EdT} {w : Nat → Nat → Int} {r nd : Nat} {p : Nat → Int} {G : Int} (h : PV E T w r nd p G) (hw : WB w) : ∃ t, FIX (fA T E w) p (srcF T r nd) (fin_ T E w r nd) t := tn_FIX (PV_AOK h hw) ini_L0 (fun v hv => h.2.2.1 v hv.2.1 hv.1 hv.2.2)
theorem fin_more {T E : EdT} {w : Nat → Nat → Int} {r nd : Nat} {p : Nat → Int} {G : Int} (h : PV E T w r nd p G) (hw : WB w) (j : Nat) : tn (fA T E w) (ini T r nd) (13 + j) = fin_ T E w r nd := (tn_fix (PV_AOK h hw) ini_L0 (fun v hv => h.2.2.1 v hv.2.1 hv.1 hv.2.2)).2 j
/-- the spade that gains most -/
def bstO (x : LabT) (T : EdT) (r : Nat) : Nat → Option Nat
  | 0 => none
  | k + 1 => if dS T k < r ∧ 0 < x.1 (6 + k) then (match bstO x T r k with | none => some k | some f => if x.1 (6 + f) < x.1 (6 + k) then some k else some f) else bstO x T r k
theorem bstO_spec {x : LabT} {T : EdT} {r : Nat} : ∀ a, (bstO x T r a = none → ∀ k, k < a → ¬ (dS T k < r ∧ 0 < x.1 (6 + k))) ∧ ∀ f, bstO x T r a = some f → f < a ∧ (dS T f < r ∧ 0 < x.1 (6 + f)) ∧ ∀ k, k < a → dS T k < r ∧ 0 < x.1 (6 + k) → x.1 (6 + k) ≤ x.1 (6 + f) := by
  intro a
  induction a with
  | zero => exact ⟨fun _ k hk => absurd hk (Nat.not_lt_zero _), fun f hf => nomatch hf⟩
  | succ a ih =>
    have hd : bstO x T r (a + 1) = if dS T a < r ∧ 0 < x.1 (6 + a) then (match bstO x T r a with | none => some a | some f => if x.1 (6 + f) < x.1 (6 + a) then some a else some f) else bstO x T r a := rfl
    by_cases h : dS T a < r ∧ 0 < x.1 (6 + a)
    · rw [hd, if_pos h]
      rcases e : bstO x T r a with _ | f
      · refine ⟨fun hh => (nomatch hh), fun f hf => ?_⟩
        obtain rfl : a = f := Option.some.inj hf
        refine ⟨by omega, h, fun k hk hav => ?_⟩
        by_cases ek : k = a
        · subst ek
          exact Int.le_refl _
        · exact absurd hav (ih.1 e k (by omega))
      · obtain ⟨i1, i2, i3⟩ := ih.2 f e
        show ((if x.1 (6 + f) < x.1 (6 + a) then some a else some f) = none → _) ∧ ∀ g, (if x.1 (6 + f) < x.1 (6 + a) then some a else some f) = some g → _
        by_cases hu : x.1 (6 + f) < x.1 (6 + a)
        · rw [if_pos hu]
          refine ⟨fun hh => (nomatch hh), fun g hg => ?_⟩
          obtain rfl : a = g := Option.some.inj hg
          refine ⟨by omega, h, fun k hk hav => ?_⟩
          by_cases ek : k = a
          · subst ek
            exact Int.le_refl _
          · have := i3 k (by omega) hav
            omega
        · rw [if_neg hu]
          refine ⟨fun hh => (nomatch hh), fun g hg => ?_⟩
          obtain rfl : f = g := Option.some.inj hg
          refine ⟨by omega, i2, fun k hk hav => ?_⟩
          by_cases ek : k = a
          · subst ek
            omega
          · exact i3 k (by omega) hav
    · rw [hd, if_neg h]
      refine ⟨fun hh k hk hav => ?_, fun f hf => ?_⟩
      · by_cases ek : k = a
        · subst ek
          exact h hav
        · exact ih.1 hh k (by omega) hav
      · obtain ⟨i1, i2, i3⟩ := ih.2 f hf
        refine ⟨by omega, i2, fun k hk hav => ?_⟩
        by_cases ek : k = a
        · subst ek
          exact absurd hav h
        · exact i3 k (by omega) hav
theorem NOi_neg {a : Int} (h : 0 < a) : a ≠ NOi := by
  intro e
  rw [e] at h
  exact absurd h (by decide)
/-- one step of the search for the most: an end, or one throw more -/
theorem flow_step {E T : EdT} {w : Nat → Nat → Int} {r nd : Nat} {p : Nat → Int} {G : Int} (hP : PV E T w r nd p G) (hw : WB w) :
    (bstO (fin_ T E w r nd) T r 8 = none → ∃ p', PV E T w r nd p' 0) ∧
    ∀ s, bstO (fin_ T E w r nd) T r 8 = some s → s < 8 ∧ 0 < (fin_ T E w r nd).1 (6 + s) ∧ ∃ n, n ≤ 5 ∧ CH (fin_ T E w r nd).2 n s ∧ (∃ p' G', PV E (fl (fin_ T E w r nd).2 n s T) w r nd p' G') ∧ ∃ d0, d0 = endD (fin_ T E w r nd).2 n s ∧ d0 < 6 ∧ srcF T r nd d0 ∧ (∀ d, d < 6 → dD (fl (fin_ T E w r nd).2 n s T) d = dD T d + (if d = d0 then 1 else 0)) ∧ ∀ y, y < 8 → dS (fl (fin_ T E w r nd).2 n s T) y = dS T y + (if y = s then 1 else 0) := by
  obtain ⟨t, hF⟩ := fin_FIX hP hw
  have hsp := bstO_spec (x := fin_ T E w r nd) (T := T) (r := r) 8
  constructor
  · intro h0
    have hno := hsp.1 h0
    exact ⟨_, PV_same hP hw hF fin_src (Int.le_refl 0) hP.2.2.2.2.2.2.2.2 (fun s hs hsr hre => by
      by_cases e : 0 < (fin_ T E w r nd).1 (6 + s)
      · exact absurd ⟨hsr, e⟩ (hno s hs)
      · omega)⟩
  · intro s h0
    obtain ⟨hs, ⟨hsr, hpos⟩, hmax⟩ := hsp.2 s h0
    obtain ⟨n, hn, hc⟩ := FIX_CH5 hF hs (NOi_neg hpos)
    obtain ⟨p', h1, d0, h0', h2, h3, h4, h5⟩ := PV_aug hP hw hF fin_src hs hsr (NOi_neg hpos) (Int.le_of_lt hpos) (fun s' hs' hsr' hre' => by
      by_cases e : 0 < (fin_ T E w r nd).1 (6 + s')
      · exact hmax s' hs' ⟨hsr', e⟩
      · omega) hc
    exact ⟨hs, hpos, n, hn, hc, ⟨p', _, h1⟩, d0, h0', h2, h3, h4, h5⟩
theorem sm_one : ∀ a d0, d0 < a → sm (fun d => if d = d0 then 1 else 0) a = 1 := by
  intro a
  induction a with
  | zero => exact fun d0 h => absurd h (Nat.not_lt_zero _)
  | succ a ih =>
    intro d0 h
    show sm (fun d => if d = d0 then 1 else 0) a + (if a = d0 then 1 else 0) = 1
    by_cases e : a = d0
    · rw [if_pos e, sm_zero a (fun k hk => if_neg (by omega))]
    · rw [if_neg e, ih d0 (by omega)]
theorem dD_8 (T : EdT) (d : Nat) : dD T d ≤ 8 := by
  have h : dD T d ≤ sm (fun _ => 1) 8 := sm_le 8 (fun k _ => by split <;> decide)
  exact h
theorem sum_48 (T : EdT) : sm (dD T) 6 ≤ 48 := by
  have h : sm (dD T) 6 ≤ sm (fun _ => 8) 6 := sm_le 6 (fun d _ => dD_8 T d)
  exact h
/-- there is a most, with prices that say so -/
theorem maxm {E : EdT} {w : Nat → Nat → Int} {r nd : Nat} (hw : WB w) : ∀ m (T : EdT) (p : Nat → Int) (G : Int), 48 ≤ sm (dD T) 6 + m → PV E T w r nd p G → ∃ N p', PV E N w r nd p' 0 := by
  intro m
  induction m with
  | zero =>
    intro T p G hm hP
    obtain ⟨h1, h2⟩ := flow_step hP hw
    rcases e : bstO (fin_ T E w r nd) T r 8 with _ | s
    · obtain ⟨p', hp⟩ := h1 e
      exact ⟨T, p', hp⟩
    · obtain ⟨-, -, n, -, -, -, d0, -, h3, -, h4, -⟩ := h2 s e
      have h5 := sum_48 (fl (fin_ T E w r nd).2 n s T)
      rw [sm_congr (g := fun d => dD T d + (if d = d0 then 1 else 0)) 6 h4, sm_add, sm_one 6 d0 h3] at h5
      have h6 : sm (fun k => dD T k) 6 = sm (dD T) 6 := rfl
      omega
  | succ m ih =>
    intro T p G hm hP
    obtain ⟨h1, h2⟩ := flow_step hP hw
    rcases e : bstO (fin_ T E w r nd) T r 8 with _ | s
    · obtain ⟨p', hp⟩ := h1 e
      exact ⟨T, p', hp⟩
    · obtain ⟨-, -, n, -, -, ⟨p', G', hp⟩, d0, -, h3, -, h4, -⟩ := h2 s e
      refine ih _ p' G' ?_ hp
      rw [sm_congr (g := fun d => dD T d + (if d = d0 then 1 else 0)) 6 h4, sm_add, sm_one 6 d0 h3]
      have h6 : sm (fun k => dD T k) 6 = sm (dD T) 6 := rfl
      omega
theorem PV_none {E : EdT} {w : Nat → Nat → Int} {r nd : Nat} (hw : WB w) : PV E (fun _ _ => false) w r nd pP 1000 := by
  have e1 : ∀ d, d < 6 → pP d = 0 := fun d hd => if_pos hd
  have e2 : ∀ s, pP (6 + s) = 1000 := fun s => if_neg (by omega)
  have z1 : ∀ d, dD (fun _ _ => false) d = 0 := fun d => sm_zero 8 (fun _ _ => if_neg Bool.false_ne_true)
  have z2 : ∀ d, dS (fun _ _ => false) d = 0 := fun d => sm_zero 6 (fun _ _ => if_neg Bool.false_ne_true)
  refine ⟨fun d s hd hs ht => absurd ht Bool.false_ne_true, fun d s hd hs he ht => ?_, fun d hn hd hr => ?_, fun d hd hr => ?_, fun s hs hr => ?_, fun s hs hr => ?_, fun d _ => ?_, fun s _ => ?_, by decide⟩
  · rw [e1 d hd, e2]
    have := hw d s
    omega
  · rw [e1 d hd]; decide
  · rw [e1 d hd]; decide
  · rw [e2]; decide
  · rw [e2]; decide
  · rw [z1]; exact Nat.zero_le _
  · rw [z2]; exact Nat.zero_le _
/-! sums of whole numbers -/
def smI (f : Nat → Int) : Nat → Int
  | 0 => 0
  | k + 1 => smI f k + f k
theorem smI_le {f g : Nat → Int} : ∀ a, (∀ k, k < a → f k ≤ g k) → smI f a ≤ smI g a := by
  intro a
  induction a with
  | zero => exact fun _ => Int.le_refl _
  | succ a ih =>
    intro h
    have h1 := ih (fun k hk => h k (by omega))
    have h2 := h a (by omega)
    show smI f a + f a ≤ smI g a + g a
    omega
theorem smI_congr {f g : Nat → Int} (a : Nat) (h : ∀ k, k < a → f k = g k) : smI f a = smI g a :=
  Int.le_antisymm (smI_le a (fun k hk => Int.le_of_eq (h k hk))) (smI_le a (fun k hk => Int.le_of_eq (h k hk).symm))
theorem smI_add {f g : Nat → Int} : ∀ a, smI (fun k => f k + g k) a = smI f a + smI g a := by
  intro a
  induction a with
  | zero => rfl
  | succ a ih =>
    show smI (fun k => f k + g k) a + (f a + g a) = smI f a + f a + (smI g a + g a)
    omega
theorem smI_mulc (c : Int) (f : Nat → Int) : ∀ a, smI (fun k => c * f k) a = c * smI f a := by
  intro a
  induction a with
  | zero => exact (Int.mul_zero c).symm
  | succ a ih =>
    show smI (fun k => c * f k) a + c * f a = c * (smI f a + f a)
    rw [ih, Int.mul_add]
theorem smI_cast (f : Nat → Nat) : ∀ a, smI (fun k => ((f k : Nat) : Int)) a = ((sm f a : Nat) : Int) := by
  intro a
  induction a with
  | zero => rfl
  | succ a ih =>
    show smI (fun k => ((f k : Nat) : Int)) a + ((f a : Nat) : Int) = ((sm f a + f a : Nat) : Int)
    rw [ih, Int.natCast_add]
theorem smI_0 : ∀ a, smI (fun _ => 0) a = 0 := by
  intro a
  induction a with
  | zero => rfl
  | succ a ih =>
    show smI (fun _ => 0) a + 0 = 0
    rw [ih]
    rfl
theorem smI_swap (f : Nat → Nat → Int) (b : Nat) : ∀ a, smI (fun i => smI (fun j => f i j) b) a = smI (fun j => smI (fun i => f i j) a) b := by
  intro a
  induction a with
  | zero => exact (smI_0 b).symm
  | succ a ih =>
    show smI (fun i => smI (fun j => f i j) b) a + smI (fun j => f a j) b = smI (fun j => smI (fun i => f i j) a + f a j) b
    rw [ih, ← smI_add]
def bI (b : Bool) : Int := if b = true then 1 else 0
theorem bI_cast (b : Bool) : bI b = (((if b = true then 1 else 0 : Nat)) : Int) := by
  cases b <;> rfl
def D2 (f : Nat → Nat → Int) : Int := smI (fun d => smI (fun s => f d s) 8) 6
theorem D2_le {f g : Nat → Nat → Int} (h : ∀ d s, d < 6 → s < 8 → f d s ≤ g d s) : D2 f ≤ D2 g := smI_le 6 (fun d hd => smI_le 8 (fun s hs => h d s hd hs))
theorem D2_congr {f g : Nat → Nat → Int} (h : ∀ d s, d < 6 → s < 8 → f d s = g d s) : D2 f = D2 g := smI_congr 6 (fun d hd => smI_congr 8 (fun s hs => h d s hd hs))
theorem D2_add {f g : Nat → Nat → Int} : D2 (fun d s => f d s + g d s) = D2 f + D2 g := by
  unfold D2
  rw [← smI_add]
  exact smI_congr 6 (fun d _ => smI_add 8)
theorem D2_mulc (c : Int) (f : Nat → Nat → Int) : D2 (fun d s => c * f d s) = c * D2 f := by
  unfold D2
  rw [← smI_mulc]
  exact smI_congr 6 (fun d _ => smI_mulc c _ 8)
theorem D2_row (T : EdT) (a : Nat → Int) : D2 (fun d s => a d * bI (T d s)) = smI (fun d => a d * ((dD T d : Nat) : Int)) 6 := by
  refine smI_congr 6 (fun d _ => ?_)
  rw [smI_mulc]
  unfold dD
  rw [← smI_cast, smI_congr (g := fun k => (((if T d k = true then 1 else 0 : Nat)) : Int)) 8 (fun k _ => bI_cast _)]
theorem D2_col (T : EdT) (a : Nat → Int) : D2 (fun d s => a s * bI (T d s)) = smI (fun s => a s * ((dS T s : Nat) : Int)) 8 := by
  unfold D2
  rw [smI_swap]
  refine smI_congr 8 (fun s _ => ?_)
  rw [smI_mulc]
  unfold dS
  rw [← smI_cast, smI_congr (g := fun k => (((if T k s = true then 1 else 0 : Nat)) : Int)) 6 (fun k _ => bI_cast _)]
