/-! FROM THE SMALL MACHINE TO THE LARGE ONE, 1: ghosts, worlds, locals -/
def lw_G : List Jvm.Cond := lw_tbl.filter mGoodW
theorem lw_G_in {w : Jvm.Cond} (h : w ∈ lw_tbl) (g : mGoodW w = true) : w ∈ lw_G := List.mem_filter.mpr ⟨h, g⟩
theorem lw_warm {w : Jvm.Cond} (g : mGoodW w = true) {args a' : Array Value} {s U : State} (hW : s.WarmedH U.vm) (h : w.before args s = true) : w.before a' U = true := by
  unfold mGoodW at g
  rw [Bool.or_eq_true] at g
  rcases g with g | g
  · exact word_at hW (good_of_word g) h
  · cases w
    case methodLinkNest => exact va_Nw.use rfl (va_Nw.warmM hW (va_Nw.of rfl h))
    all_goals exact absurd g (by simp)
theorem mWd_in {i : Nat} {w : Jvm.Cond} (h : mWd i w = true) : w ∈ lw_tbl := List.mem_of_getElem? (of_decide_eq_true h)
theorem u_ws_G {ci : Nat} {q : vw_C} (h : vwCl[ci]? = some q) : ∀ w ∈ u_ws q.1 q.2.1 q.2.2, w ∈ lw_G := by
  intro w hw
  refine lw_G_in (vwCl_in ci q h w hw) ?_
  obtain ⟨k, -, rfl⟩ := List.mem_map.mp hw
  unfold u_lay
  split <;> rfl
/-- ghosts: the tables' numbers, the address of each place, the classes of rows, what place 130 is -/
abbrev mG : Type := va_G × (Nat → Nat) × (Nat → ClassId) × Value
def mTr (G : mG) (v : Value) : Value := match v with
  | .ref q => if q = 130 then G.2.2.2 else .ref (G.2.1 q)
  | v => v
def mA (G : mG) : Nat → Prop := fun q => ∃ k, k < 86 ∧ q = G.2.1 k
def mCell (G : mG) (st : mSt) (p : Nat) : va_E := match lay p with
  | (0, n, _) => .inl (G.2.2.1 0, n, .inl (st.1 p))
  | (1, n, _) => .inl (G.2.2.1 1, n, .inl (st.1 p))
  | (2, n, _) => .inl (G.2.2.1 2, n, .inl (st.1 p))
  | (3, n, fs) => .inl (G.2.2.1 3, n, .inr (.inr (.inr (.inr (fun j => (fs[j]?).map (fun f => G.2.1 f.2))))))
  | (_, ci, fs) => .inr (ci, (List.range fs.length).map (fun k => mTr G (mFld st p k (fs.getD k (0, 0)))))
def mWs (G : mG) (st : mSt) : va_W := (List.range 86).map (fun p => (G.2.1 p, mCell G st p))
def mTys (G : mG) : List (ClassId × FieldType) := [(G.2.2.1 0, .int), (G.2.2.1 1, .byte), (G.2.2.1 2, .boolean), (G.2.2.1 3, .object "SpadeRings$Now")]
def strI : List Nat := [122, 128, 130, 132, 134]
def strK : List String := ["digger", "spade", "yard", "right", "left"]
/-- what never changes -/
def mSR (G : mG) (U : State) : Prop :=
  (∀ i j : Nat, i < 86 → j < 86 → G.2.1 i = G.2.1 j → i = j) ∧
  vk_S 5 lenK bytK (fun i => G.2.1 (100 + i)) (fun i => G.2.1 (110 + i)) (mA G) U U.heap ∧
  (∀ i : Nat, i < 5 → vk_R "SpadeRings$Script" (strI.getD i 0) (strK.getD i "") (G.2.1 (100 + i)) U) ∧
  va_Z "java/lang/String" "COMPACT_STRINGS" "Z" (.int 1) (mA G) U U.heap ∧
  va_Z "jdk/internal/util/Preconditions" "SIOOBE_FORMATTER" "Ljava/util/function/BiFunction;" G.2.2.2 (mA G) U U.heap ∧ (G.2.2.2 = .null ∨ ∃ t, G.2.2.2 = .ref t)
def mWB (G : mG) (st : mSt) (U : State) : Prop := va_P G.1 vwCl (mWs G st) U.heap ∧ va_K G.1 vwCl (mTys G) U ∧ mSR G U
def mQc (G : mG) (v : Option Value) (st1 : mSt) : Array Value → State → Outcome → State → Prop := fun _ s0 oc t => oc = .returned (v.map (mTr G)) ∧ mWB G st1 t ∧ va_F (mA G) s0 t
def mRm (d : Nat) : Room := { frames := d, cells := 0, slots := 0, locals := 64 * d }
theorem lay_lt {p : Nat} (h : (lay p).1 < 5) : p < 86 := by
  unfold lay at h
  by_cases h1 : p < 86
  · exact h1
  · rw [if_neg h1] at h
    by_cases h2 : 100 ≤ p ∧ p < 105
    · rw [if_pos h2] at h
      exact absurd h (by simp)
    · rw [if_neg h2] at h
      by_cases h3 : 110 ≤ p ∧ p < 115
      · rw [if_pos h3] at h
        exact absurd h (by simp)
      · rw [if_neg h3] at h
        by_cases h4 : p = 120
        · rw [if_pos h4] at h
          exact absurd h (by decide)
        · rw [if_neg h4] at h
          exact absurd h (by decide)
theorem lay_5 {p i : Nat} {fs : List (Nat × Nat)} (h : lay p = (5, i, fs)) : i < 5 ∧ p = 100 + i := by
  have hk : ¬ (lay p).1 < 5 := by rw [h]; simp
  unfold lay at h
  by_cases h1 : p < 86
  · have h0 : ∀ p, p < 86 → (layL.getD p (9, 0, [])).1 < 5 := by decide +kernel
    exact absurd (by unfold lay; rw [if_pos h1]; exact h0 p h1) hk
  · rw [if_neg h1] at h
    by_cases h2 : 100 ≤ p ∧ p < 105
    · rw [if_pos h2] at h
      cases h
      omega
    · rw [if_neg h2] at h
      by_cases h3 : 110 ≤ p ∧ p < 115
      · rw [if_pos h3] at h
        cases h
      · rw [if_neg h3] at h
        by_cases h4 : p = 120
        · rw [if_pos h4] at h
          cases h
        · rw [if_neg h4] at h
          cases h
theorem lay_6 {p i : Nat} {fs : List (Nat × Nat)} (h : lay p = (6, i, fs)) : i < 5 ∧ p = 110 + i := by
  have hk : ¬ (lay p).1 < 5 := by rw [h]; simp
  unfold lay at h
  by_cases h1 : p < 86
  · have h0 : ∀ p, p < 86 → (layL.getD p (9, 0, [])).1 < 5 := by decide +kernel
    exact absurd (by unfold lay; rw [if_pos h1]; exact h0 p h1) hk
  · rw [if_neg h1] at h
    by_cases h2 : 100 ≤ p ∧ p < 105
    · rw [if_pos h2] at h
      cases h
    · rw [if_neg h2] at h
      by_cases h3 : 110 ≤ p ∧ p < 115
      · rw [if_pos h3] at h
        cases h
        omega
      · rw [if_neg h3] at h
        by_cases h4 : p = 120
        · rw [if_pos h4] at h
          cases h
        · rw [if_neg h4] at h
          cases h
theorem lay_7 {p i : Nat} {fs : List (Nat × Nat)} (h : lay p = (7, i, fs)) : p = 120 := by
  have hk : ¬ (lay p).1 < 5 := by rw [h]; simp
  unfold lay at h
  by_cases h1 : p < 86
  · have h0 : ∀ p, p < 86 → (layL.getD p (9, 0, [])).1 < 5 := by decide +kernel
    exact absurd (by unfold lay; rw [if_pos h1]; exact h0 p h1) hk
  · rw [if_neg h1] at h
    by_cases h2 : 100 ≤ p ∧ p < 105
    · rw [if_pos h2] at h
      cases h
    · rw [if_neg h2] at h
      by_cases h3 : 110 ≤ p ∧ p < 115
      · rw [if_pos h3] at h
        cases h
      · rw [if_neg h3] at h
        by_cases h4 : p = 120
        · exact h4
        · rw [if_neg h4] at h
          cases h
theorem mWs_len (G : mG) (st : mSt) : (mWs G st).length = 86 := by simp [mWs]
theorem mWs_get {G : mG} {st : mSt} {p : Nat} (h : p < 86) : (mWs G st)[p]? = some (G.2.1 p, mCell G st p) := by
  simp [mWs, h]
theorem mWs_out {G : mG} {st : mSt} {p : Nat} (h : ¬ p < 86) : (mWs G st)[p]? = none := List.getElem?_eq_none (by rw [mWs_len]; omega)
theorem mWs_set {G : mG} {st st' : mSt} {p : Nat} {x : va_E} (hp : p < 86) (hx : mCell G st' p = x) (ho : ∀ q, q ≠ p → mCell G st' q = mCell G st q) : (mWs G st).set p (G.2.1 p, x) = mWs G st' := by
  apply List.ext_getElem?
  intro k
  by_cases hk : k < 86
  · rw [mWs_get hk]
    by_cases e : k = p
    · subst e
      rw [List.getElem?_set_self (by rw [mWs_len]; exact hk), hx]
    · rw [List.getElem?_set_ne (Ne.symm e), mWs_get hk, ho k e]
  · rw [mWs_out hk, List.getElem?_eq_none (by rw [List.length_set, mWs_len]; omega)]
theorem mCell_congr {G : mG} {st st' : mSt} {q : Nat} (h1 : st'.1 q = st.1 q) (h2 : st'.2 q = st.2 q) : mCell G st' q = mCell G st q := by
  have e : ∀ k f, mFld st' q k f = mFld st q k f := by
    intro k f
    unfold mFld
    rw [h1, h2]
  unfold mCell
  rw [h1]
  simp only [e]
theorem mU_ne {f : Nat → Nat → Int32} {p k q : Nat} {x : Int32} (h : q ≠ p) : mU f p k x q = f q := if_neg h
theorem mU_eq {f : Nat → Nat → Int32} {p k : Nat} {x : Int32} : mU f p k x p = upd (f p) k x := if_pos rfl
theorem mUL_ne {f : Nat → Nat → Int64} {p k q : Nat} {x : Int64} (h : q ≠ p) : mUL f p k x q = f q := if_neg h
theorem mUL_eq {f : Nat → Nat → Int64} {p k : Nat} {x : Int64} : mUL f p k x p = vp_updL (f p) k x := if_pos rfl
theorem mWs_D {G : mG} {st : mSt} (h : ∀ i j : Nat, i < 86 → j < 86 → G.2.1 i = G.2.1 j → i = j) : va_D (mA G) (mWs G st) := by
  have key : ∀ (i : Nat) (q : Nat × va_E), (mWs G st)[i]? = some q → i < 86 ∧ q.1 = G.2.1 i := by
    intro i q hi
    by_cases hk : i < 86
    · rw [mWs_get hk] at hi
      cases hi
      exact ⟨hk, rfl⟩
    · rw [mWs_out hk] at hi
      cases hi
  refine ⟨fun i j x y hi hj e => ?_, fun k q hk => ?_⟩
  · obtain ⟨a, b⟩ := key i x hi
    obtain ⟨c, d⟩ := key j y hj
    exact h i j a c (by rw [← b, ← d]; exact e)
  · obtain ⟨a, b⟩ := key k q hk
    exact ⟨k, a, b⟩
theorem mTr_cat {G : mG} (hF : G.2.2.2 = .null ∨ ∃ t, G.2.2.2 = .ref t) (v : Value) : (mTr G v).category = v.category := by
  cases v <;> try rfl
  rename_i q
  unfold mTr
  by_cases h : q = 130
  · simp only [if_pos h]
    rcases hF with e | ⟨t, e⟩ <;> rw [e] <;> rfl
  · simp only [if_neg h]
    rfl
theorem mTr_ref {G : mG} {q : Nat} (h : q ≠ 130) : mTr G (.ref q) = .ref (G.2.1 q) := if_neg h
theorem mTr_cats {G : mG} (hF : G.2.2.2 = .null ∨ ∃ t, G.2.2.2 = .ref t) (l : List Value) : ((l.map (mTr G)).map fun v => v.category).sum = mCat l := by
  unfold mCat
  rw [List.map_map]
  congr 1
  apply List.map_congr_left
  intro v _
  exact mTr_cat hF v
/-- the locals, as pairs -/
def mPrs (G : mG) : Nat → mLs → List (Nat × Value)
  | _, [] => []
  | i, some v :: l => (i, mTr G v) :: mPrs G (i + 1) l
  | i, none :: l => mPrs G (i + 1) l
theorem mPrs_mem {G : mG} : ∀ (l : mLs) (k : Nat) (q : Nat × Value), q ∈ mPrs G k l ↔ ∃ (j : Nat) (v : Value), l[j]? = some (some v) ∧ q = (k + j, mTr G v) := by
  intro l
  induction l with
  | nil =>
    intro k q
    simp [mPrs]
  | cons a l ih =>
    intro k q
    have step : (∃ (j : Nat) (v : Value), l[j]? = some (some v) ∧ q = (k + 1 + j, mTr G v)) ↔ ∃ (j : Nat) (v : Value), (a :: l)[j + 1]? = some (some v) ∧ q = (k + (j + 1), mTr G v) := by
      constructor
      · rintro ⟨j, v, h1, h2⟩
        exact ⟨j, v, by simpa using h1, by rw [h2]; congr 1; omega⟩
      · rintro ⟨j, v, h1, h2⟩
        exact ⟨j, v, by simpa using h1, by rw [h2]; congr 1; omega⟩
    cases a with
    | none =>
      show q ∈ mPrs G (k + 1) l ↔ _
      rw [ih, step]
      constructor
      · rintro ⟨j, v, h⟩
        exact ⟨j + 1, v, h⟩
      · rintro ⟨j, v, h1, h2⟩
        cases j with
        | zero => simp at h1
        | succ j => exact ⟨j, v, h1, h2⟩
    | some w =>
      show q ∈ (k, mTr G w) :: mPrs G (k + 1) l ↔ _
      rw [List.mem_cons, ih, step]
      constructor
      · rintro (h | ⟨j, v, h⟩)
        · exact ⟨0, w, by simp, h⟩
        · exact ⟨j + 1, v, h⟩
      · rintro ⟨j, v, h1, h2⟩
        cases j with
        | zero =>
          simp at h1
          subst h1
          exact Or.inl h2
        | succ j => exact Or.inr ⟨j, v, h1, h2⟩
def mLo (G : mG) (lsA : Array Slot) (nL : Nat) (ls : mLs) : Prop := lv_has lsA nL (mPrs G 0 ls) ∧ ls.length = nL
theorem lv_mono {ls : Array Slot} {n : Nat} {l l' : List (Nat × Value)} (h : lv_has ls n l) (hs : ∀ q ∈ l', q ∈ l) : lv_has ls n l' := ⟨h.1, h.2.1, fun q hq => h.2.2 q (hs q hq)⟩
theorem mGet_some {ls : mLs} {i : Nat} {v : Value} (h : mGet ls i = some v) : ls[i]? = some (some v) := by
  unfold mGet at h
  rw [List.getD_eq_getElem?_getD] at h
  cases hx : ls[i]? with
  | none => rw [hx] at h; cases h
  | some y => rw [hx] at h; exact congrArg some h
theorem mLo_get {G : mG} {lsA : Array Slot} {nL i : Nat} {ls : mLs} {v : Value} (h : mLo G lsA nL ls) (hg : mGet ls i = some v) : lsA[i]? = some (.val (mTr G v)) := by
  have h1 := h.1.2.2 (i, mTr G v) ((mPrs_mem ls 0 _).mpr ⟨i, v, mGet_some hg, by simp⟩)
  exact h1
theorem mKill_get {ls : mLs} {i j : Nat} {w : Value} (hj : j ≠ i) (h : (mKill ls i)[j]? = some (some w)) : ls[j]? = some (some w) ∧ ¬ (j + 1 = i ∧ w.category = 2) := by
  unfold mKill at h
  cases i with
  | zero => exact ⟨h, by omega⟩
  | succ k =>
    simp only at h
    cases hx : ls.getD k none with
    | none =>
      rw [hx] at h
      refine ⟨h, fun ⟨e, _⟩ => ?_⟩
      have e' : j = k := by omega
      subst e'
      rw [List.getD_eq_getElem?_getD, h] at hx
      cases hx
    | some y =>
      rw [hx] at h
      simp only at h
      by_cases hc : y.category = 2
      · rw [if_pos hc] at h
        by_cases e : j = k
        · subst e
          by_cases hl : j < ls.length
          · rw [List.getElem?_set_self hl] at h
            cases h
          · rw [List.getElem?_eq_none (by rw [List.length_set]; omega)] at h
            cases h
        · rw [List.getElem?_set_ne (Ne.symm e)] at h
          exact ⟨h, by omega⟩
      · rw [if_neg hc] at h
        refine ⟨h, fun ⟨e, c⟩ => ?_⟩
        have e' : j = k := by omega
        subst e'
        rw [List.getD_eq_getElem?_getD, h] at hx
        cases hx
        exact hc c
theorem mKill_len (ls : mLs) (i : Nat) : (mKill ls i).length = ls.length := by
  unfold mKill
  split
  · rfl
  · split
    · split
      · rw [List.length_set]
      · rfl
    · rfl
theorem mSet1_len (ls : mLs) (i : Nat) (v : Value) : (mSet1 ls i v).length = ls.length := by
  unfold mSet1
  rw [List.length_set, mKill_len]
theorem mSet2_len (ls : mLs) (i : Nat) (v : Value) : (mSet2 ls i v).length = ls.length := by
  unfold mSet2
  rw [List.length_set, List.length_set, mKill_len]
theorem mPrs_set1 {G : mG} (hF : G.2.2.2 = .null ∨ ∃ t, G.2.2.2 = .ref t) {ls : mLs} {i : Nat} {v : Value} (hi : i < ls.length) : ∀ q ∈ mPrs G 0 (mSet1 ls i v), q ∈ (i, mTr G v) :: (mPrs G 0 ls).filter (fun q => !(q.1 == i) && !(q.1 + 1 == i && q.2.category == 2)) := by
  intro q hq
  obtain ⟨j, w, h1, rfl⟩ := (mPrs_mem _ 0 q).mp hq
  unfold mSet1 at h1
  by_cases e : j = i
  · subst e
    rw [List.getElem?_set_self (by rw [mKill_len]; exact hi)] at h1
    cases h1
    rw [Nat.zero_add]
    exact List.mem_cons_self
  · rw [List.getElem?_set_ne (Ne.symm e)] at h1
    obtain ⟨h2, h3⟩ := mKill_get e h1
    refine List.mem_cons_of_mem _ (List.mem_filter.mpr ⟨(mPrs_mem ls 0 _).mpr ⟨j, w, h2, rfl⟩, ?_⟩)
    have hc := mTr_cat hF w
    simp only [Nat.zero_add, Bool.and_eq_true, Bool.not_eq_true', beq_eq_false_iff_ne, ne_eq, e, not_false_eq_true, true_and, Bool.and_eq_false_iff]
    by_cases e2 : j + 1 = i
    · right
      intro h
      exact h3 ⟨e2, by rw [← hc]; exact h⟩
    · left
      exact e2
theorem mPrs_set2 {G : mG} (hF : G.2.2.2 = .null ∨ ∃ t, G.2.2.2 = .ref t) {ls : mLs} {i : Nat} {v : Value} (hi : i + 1 < ls.length) : ∀ q ∈ mPrs G 0 (mSet2 ls i v), q ∈ (i, mTr G v) :: (mPrs G 0 ls).filter (fun q => !(q.1 == i) && (!(q.1 == i + 1) && !(q.1 + 1 == i && q.2.category == 2))) := by
  intro q hq
  obtain ⟨j, w, h1, rfl⟩ := (mPrs_mem _ 0 q).mp hq
  unfold mSet2 at h1
  have e1 : j ≠ i + 1 := by
    intro e
    subst e
    rw [List.getElem?_set_self (by rw [List.length_set, mKill_len]; exact hi)] at h1
    cases h1
  rw [List.getElem?_set_ne (Ne.symm e1)] at h1
  by_cases e : j = i
  · subst e
    rw [List.getElem?_set_self (by rw [mKill_len]; omega)] at h1
    cases h1
    rw [Nat.zero_add]
    exact List.mem_cons_self
  · rw [List.getElem?_set_ne (Ne.symm e)] at h1
    obtain ⟨h2, h3⟩ := mKill_get e h1
    refine List.mem_cons_of_mem _ (List.mem_filter.mpr ⟨(mPrs_mem ls 0 _).mpr ⟨j, w, h2, rfl⟩, ?_⟩)
    have hc := mTr_cat hF w
    simp only [Nat.zero_add, Bool.and_eq_true, Bool.not_eq_true', beq_eq_false_iff_ne, ne_eq, e, e1, not_false_eq_true, true_and, Bool.and_eq_false_iff]
    by_cases e2 : j + 1 = i
    · right
      intro h
      exact h3 ⟨e2, by rw [← hc]; exact h⟩
    · left
      exact e2
theorem mPrs_entry {G : mG} (hF : G.2.2.2 = .null ∨ ∃ t, G.2.2.2 = .ref t) (n : Nat) : ∀ (args : List Value) (k : Nat), mPrs G k (mArgs args ++ List.replicate n none) = lv_args k (args.map (mTr G)) := by
  intro args
  induction args with
  | nil =>
    intro k
    show mPrs G k (List.replicate n none) = []
    induction n generalizing k with
    | zero => rfl
    | succ n ih =>
      rw [List.replicate_succ]
      exact ih (k + 1)
  | cons v l ih =>
    intro k
    have hc := mTr_cat hF v
    rw [List.map_cons]
    unfold mArgs lv_args
    rw [hc]
    by_cases h : v.category = 2
    · rw [if_pos h, if_pos h]
      show (k, mTr G v) :: mPrs G (k + 1 + 1) (mArgs l ++ _) = _
      rw [ih]
    · rw [if_neg h, if_neg h]
      show (k, mTr G v) :: mPrs G (k + 1) (mArgs l ++ _) = _
      rw [ih]
theorem mArgs_len {G : mG} (hF : G.2.2.2 = .null ∨ ∃ t, G.2.2.2 = .ref t) (args : List Value) : (lg_sl (args.map (mTr G))).length = (mArgs args).length := by
  induction args with
  | nil => rfl
  | cons v l ih =>
    have hc := mTr_cat hF v
    rw [List.map_cons]
    unfold lg_sl at ih ⊢
    rw [List.flatMap_cons, List.length_append, ih, hc]
    show _ = (if v.category = 2 then some v :: none :: mArgs l else some v :: mArgs l).length
    by_cases h : v.category = 2
    · rw [if_pos h, if_pos h]
      simp only [List.length_cons, List.length_nil]
      omega
    · rw [if_neg h, if_neg h]
      simp only [List.length_cons, List.length_nil]
      omega
theorem mSR_go {G : mG} {s U : State} {locs : List Loc} {H : Heap} (hU : U.heap = H) (hW : s.WarmedH U.vm) (hS : va_S (mA G) s.heap H locs) (h : mSR G s) : mSR G U := by
  obtain ⟨h1, h2, h3, h4, h5, h6⟩ := h
  subst hU
  exact ⟨h1, (vk_S.moved hW.alike h2).kept hS.2.1, fun i hi => vk_R.warm hW (h3 i hi), (va_Z.moved hW.alike h4).kept hS.2.1, (va_Z.moved hW.alike h5).kept hS.2.1, h6⟩
theorem mWB_blind {G : mG} {st : mSt} {U : State} (h : mWB G st U) (g : JFrame) (mk : MethodId) (a : Array Value) : mWB G st (U.calling g mk a) := by
  obtain ⟨h1, h2, h3, h4, h5, h6, h7, h8⟩ := h
  exact ⟨h1, va_K.moved (u := U) (U := U.calling g mk a) (Vm.Alike.refl U.vm) h2, h3, vk_S.moved (u := U) (U := U.calling g mk a) (Vm.Alike.refl U.vm) h4, fun i hi => vk_R.same (u := U) (U := U.calling g mk a) rfl (h5 i hi), va_Z.moved (u := U) (U := U.calling g mk a) (Vm.Alike.refl U.vm) h6, va_Z.moved (u := U) (U := U.calling g mk a) (Vm.Alike.refl U.vm) h7, h8⟩
theorem mPc_blind {G : mG} {st : mSt} {av : List Value} : FrameBlind (va_Pc av (mWB G st)) := fun _ _ g mk q => ⟨q.1, mWB_blind q.2 g mk _⟩
