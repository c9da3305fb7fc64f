/-! READING: items from tokens -/
abbrev RQ : Type := (Nat × Bool) × (Nat → Nat) × (Nat → Nat → Nat)
abbrev RQ.p (q : RQ) : Nat × Bool := q.1
abbrev RQ.n (q : RQ) : Nat → Nat := q.2.1
abbrev RQ.c (q : RQ) : Nat → Nat → Nat := q.2.2
def adv (ok : Bool) (p : Nat × Bool) : Nat × Bool := if p.2 = true then p else if ok = true then (p.1 + 1, false) else (p.1, true)
def opt (ok : Bool) (p : Nat × Bool) : Nat × Bool := if p.2 = false ∧ ok = true then (p.1 + 1, p.2) else p
def upd2 (c : Nat → Nat → Nat) (r k x : Nat) : Nat → Nat → Nat := fun i j => if i = r ∧ j = k then x else c i j
def nmb (T : Nat → Nat) (m : Nat) (p : Nat × Bool) : Bool := decide (1 ≤ T p.1 ∧ T p.1 ≤ m)
def dg1 (q : RQ) : Nat × Bool := adv (decide (q.n 0 < 6)) q.p
def dg2 (T : Nat → Nat) (q : RQ) : Nat × Bool := adv (nmb T 9 (dg1 q)) (dg1 q)
def dg3 (T : Nat → Nat) (q : RQ) : Nat × Bool := adv (nmb T 9 (dg2 T q)) (dg2 T q)
def dg4 (T : Nat → Nat) (q : RQ) : Nat × Bool := opt (decide (T (dg3 T q).1 = 107)) (dg3 T q)
def dg5 (T : Nat → Nat) (q : RQ) : Nat × Bool := adv (decide (T (dg4 T q).1 = 102)) (dg4 T q)
def sd1 (q : RQ) : Nat × Bool := adv (decide (q.n 1 < 8)) q.p
def sd2 (T : Nat → Nat) (q : RQ) : Nat × Bool := adv (nmb T 9 (sd1 q)) (sd1 q)
def sd3 (T : Nat → Nat) (q : RQ) : Nat × Bool := opt (decide (T (sd2 T q).1 = 106 ∨ T (sd2 T q).1 = 107)) (sd2 T q)
def sd4 (T : Nat → Nat) (q : RQ) : Nat × Bool := adv (decide (T (sd3 T q).1 = 102)) (sd3 T q)
def yd1 (q : RQ) : Nat × Bool := adv (decide (q.n 2 < 8)) q.p
def yd2 (T : Nat → Nat) (q : RQ) : Nat × Bool := adv (nmb T 99 (yd1 q)) (yd1 q)
def yd3 (T : Nat → Nat) (q : RQ) : Nat × Bool := adv (nmb T 9 (yd2 T q)) (yd2 T q)
def yd4 (T : Nat → Nat) (q : RQ) : Nat × Bool := adv (decide (T (yd3 T q).1 = 102)) (yd3 T q)
def wm (t : Nat) : Nat := if t = 106 then 1 else if t = 107 then 2 else 0
def dgC (T : Nat → Nat) (q : RQ) : Nat → Nat → Nat := upd2 (upd2 (upd2 q.c 0 (q.n 0) (T (dg1 q).1)) 1 (q.n 0) (T (dg2 T q).1)) 2 (q.n 0) (if T (dg3 T q).1 = 107 then 1 else 0)
def sdC (T : Nat → Nat) (q : RQ) : Nat → Nat → Nat := upd2 (upd2 q.c 3 (q.n 1) (T (sd1 q).1)) 4 (q.n 1) (wm (T (sd2 T q).1))
def ydC (T : Nat → Nat) (q : RQ) : Nat → Nat → Nat := upd2 (upd2 q.c 5 (q.n 2) (T (yd1 q).1)) 6 (q.n 2) (T (yd2 T q).1)
def iD (T : Nat → Nat) (q : RQ) : RQ := if (dg5 T q).2 = true then ⟨dg5 T q, q.n, q.c⟩ else ⟨dg5 T q, updN q.n 0 (q.n 0 + 1), dgC T q⟩
def iS (T : Nat → Nat) (q : RQ) : RQ := if (sd4 T q).2 = true then ⟨sd4 T q, q.n, q.c⟩ else ⟨sd4 T q, updN q.n 1 (q.n 1 + 1), sdC T q⟩
def iY (T : Nat → Nat) (q : RQ) : RQ := if (yd4 T q).2 = true then ⟨yd4 T q, q.n, q.c⟩ else ⟨yd4 T q, updN q.n 2 (q.n 2 + 1), ydC T q⟩
abbrev stopQ (T : Nat → Nat) (q : RQ) : Prop := q.p.2 = true ∨ T q.p.1 = 100
def itm (T : Nat → Nat) (q : RQ) : RQ := if T q.p.1 = 103 then iD T q else if T q.p.1 = 104 then iS T q else if T q.p.1 = 105 then iY T q else ⟨(q.p.1, true), q.n, q.c⟩
def q0 : RQ := ⟨(0, false), fun _ => 0, fun _ _ => 0⟩
def rd (T : Nat → Nat) : Nat → RQ
  | 0 => q0
  | m + 1 => if stopQ T (rd T m) then rd T m else itm T (rd T m)
def RDR (T : Nat → Nat) (q : RQ) : Prop := ∃ m, q = rd T m ∧ stopQ T q
theorem rd_stay {T : Nat → Nat} {m : Nat} (h : stopQ T (rd T m)) : ∀ k, rd T (m + k) = rd T m := by
  intro k
  induction k with
  | zero => rfl
  | succ k ih =>
    show (if stopQ T (rd T (m + k)) then rd T (m + k) else itm T (rd T (m + k))) = _
    rw [ih, if_pos h]
theorem RDR_un {T : Nat → Nat} {q q' : RQ} (h : RDR T q) (h' : RDR T q') : q = q' := by
  obtain ⟨m, e, hs⟩ := h
  obtain ⟨m', e', hs'⟩ := h'
  rw [e] at hs
  rw [e'] at hs'
  rw [e, e']
  by_cases hm : m ≤ m'
  · rw [show m' = m + (m' - m) by omega, rd_stay hs]
  · rw [show m = m' + (m - m') by omega, rd_stay hs']
theorem rd_s {T : Nat → Nat} {m : Nat} (h : ¬ stopQ T (rd T m)) : rd T (m + 1) = itm T (rd T m) := if_neg h
theorem adv_f {ok : Bool} {p : Nat × Bool} (h : (adv ok p).2 = false) : p.2 = false ∧ ok = true ∧ adv ok p = (p.1 + 1, false) := by
  unfold adv at h ⊢
  by_cases e : p.2 = true
  · rw [if_pos e] at h
    rw [e] at h
    exact Bool.noConfusion h
  · rw [if_neg e] at h ⊢
    by_cases e2 : ok = true
    · rw [if_pos e2]
      exact ⟨Bool.eq_false_iff.mpr e, e2, rfl⟩
    · rw [if_neg e2] at h
      exact Bool.noConfusion h
theorem adv_le (ok : Bool) (p : Nat × Bool) : p.1 ≤ (adv ok p).1 ∧ (adv ok p).1 ≤ p.1 + 1 := by
  unfold adv
  split
  · exact ⟨Nat.le_refl _, Nat.le_succ _⟩
  · split
    · exact ⟨Nat.le_succ _, Nat.le_refl _⟩
    · exact ⟨Nat.le_refl _, Nat.le_succ _⟩
theorem opt_2 (ok : Bool) (p : Nat × Bool) : (opt ok p).2 = p.2 := by
  unfold opt
  split <;> rfl
theorem opt_le (ok : Bool) (p : Nat × Bool) : p.1 ≤ (opt ok p).1 ∧ (opt ok p).1 ≤ p.1 + 1 := by
  unfold opt
  split
  · exact ⟨Nat.le_succ _, Nat.le_refl _⟩
  · exact ⟨Nat.le_refl _, Nat.le_succ _⟩
theorem adv_T {T : Nat → Nat} {A : Nat} (hA : T A = 100) {ok : Bool} {p : Nat × Bool} (hok : ok = true → T p.1 ≠ 100) (h : p.1 ≤ A) : (adv ok p).1 ≤ A := by
  unfold adv
  split
  · exact h
  · split
    · rename_i e
      have : p.1 ≠ A := fun e2 => hok e (by rw [e2]; exact hA)
      show p.1 + 1 ≤ A
      omega
    · exact h
theorem opt_T {T : Nat → Nat} {A : Nat} (hA : T A = 100) {ok : Bool} {p : Nat × Bool} (hok : ok = true → T p.1 ≠ 100) (h : p.1 ≤ A) : (opt ok p).1 ≤ A := by
  unfold opt
  split
  · rename_i e
    have : p.1 ≠ A := fun e2 => hok e.2 (by rw [e2]; exact hA)
    show p.1 + 1 ≤ A
    omega
  · exact h
theorem nmb_T {T : Nat → Nat} {m : Nat} {p : Nat × Bool} (hm : m ≤ 99) (h : nmb T m p = true) : 1 ≤ T p.1 ∧ T p.1 ≤ m ∧ T p.1 ≠ 100 := by
  have := of_decide_eq_true h
  exact ⟨this.1, this.2, by omega⟩
theorem dg5_f {T : Nat → Nat} {q : RQ} (h : (dg5 T q).2 = false) : q.p.2 = false ∧ q.n 0 < 6 ∧ (1 ≤ T (dg1 q).1 ∧ T (dg1 q).1 ≤ 9) ∧ (1 ≤ T (dg2 T q).1 ∧ T (dg2 T q).1 ≤ 9) ∧ q.p.1 < (dg5 T q).1 ∧ (dg3 T q).2 = false := by
  obtain ⟨a1, _, e5⟩ := adv_f h
  replace a1 : (dg3 T q).2 = false := (opt_2 _ _).symm.trans a1
  obtain ⟨b1, b2, _⟩ := adv_f a1
  obtain ⟨c1, c2, _⟩ := adv_f b1
  obtain ⟨d1, d2, e1⟩ := adv_f c1
  have b3 := nmb_T (by decide) b2
  have c3 := nmb_T (by decide) c2
  have l1 := (adv_le (nmb T 9 (dg1 q)) (dg1 q)).1
  have l2 := (adv_le (nmb T 9 (dg2 T q)) (dg2 T q)).1
  have l3 := (opt_le (decide (T (dg3 T q).1 = 107)) (dg3 T q)).1
  have l4 : (dg5 T q).1 = (dg4 T q).1 + 1 := congrArg Prod.fst e5
  have l5 := (adv_le (decide (q.n 0 < 6)) q.p).1
  have h1 : q.p.1 ≤ (dg1 q).1 := l5
  have h2 : (dg1 q).1 ≤ (dg2 T q).1 := l1
  have h3 : (dg2 T q).1 ≤ (dg3 T q).1 := l2
  have h4 : (dg3 T q).1 ≤ (dg4 T q).1 := l3
  exact ⟨d1, of_decide_eq_true d2, ⟨c3.1, c3.2.1⟩, ⟨b3.1, b3.2.1⟩, by omega, a1⟩
theorem sd4_f {T : Nat → Nat} {q : RQ} (h : (sd4 T q).2 = false) : q.p.2 = false ∧ q.n 1 < 8 ∧ (1 ≤ T (sd1 q).1 ∧ T (sd1 q).1 ≤ 9) ∧ q.p.1 < (sd4 T q).1 ∧ (sd2 T q).2 = false := by
  obtain ⟨a1, _, e5⟩ := adv_f h
  replace a1 : (sd2 T q).2 = false := (opt_2 _ _).symm.trans a1
  obtain ⟨c1, c2, _⟩ := adv_f a1
  obtain ⟨d1, d2, e1⟩ := adv_f c1
  have c3 := nmb_T (by decide) c2
  have l1 := (adv_le (nmb T 9 (sd1 q)) (sd1 q)).1
  have l3 := (opt_le (decide (T (sd2 T q).1 = 106 ∨ T (sd2 T q).1 = 107)) (sd2 T q)).1
  have l4 : (sd4 T q).1 = (sd3 T q).1 + 1 := congrArg Prod.fst e5
  have l5 := (adv_le (decide (q.n 1 < 8)) q.p).1
  have h1 : q.p.1 ≤ (sd1 q).1 := l5
  have h2 : (sd1 q).1 ≤ (sd2 T q).1 := l1
  have h4 : (sd2 T q).1 ≤ (sd3 T q).1 := l3
  exact ⟨d1, of_decide_eq_true d2, ⟨c3.1, c3.2.1⟩, by omega, a1⟩
theorem yd4_f {T : Nat → Nat} {q : RQ} (h : (yd4 T q).2 = false) : q.p.2 = false ∧ q.n 2 < 8 ∧ (1 ≤ T (yd1 q).1 ∧ T (yd1 q).1 ≤ 99) ∧ (1 ≤ T (yd2 T q).1 ∧ T (yd2 T q).1 ≤ 9) ∧ q.p.1 < (yd4 T q).1 := by
  obtain ⟨a1, _, e5⟩ := adv_f h
  obtain ⟨b1, b2, _⟩ := adv_f a1
  obtain ⟨c1, c2, _⟩ := adv_f b1
  obtain ⟨d1, d2, e1⟩ := adv_f c1
  have b3 := nmb_T (by decide) b2
  have c3 := nmb_T (by decide) c2
  have l1 := (adv_le (nmb T 99 (yd1 q)) (yd1 q)).1
  have l2 := (adv_le (nmb T 9 (yd2 T q)) (yd2 T q)).1
  have l4 : (yd4 T q).1 = (yd3 T q).1 + 1 := congrArg Prod.fst e5
  have l5 := (adv_le (decide (q.n 2 < 8)) q.p).1
  have h1 : q.p.1 ≤ (yd1 q).1 := l5
  have h2 : (yd1 q).1 ≤ (yd2 T q).1 := l1
  have h3 : (yd2 T q).1 ≤ (yd3 T q).1 := l2
  exact ⟨d1, of_decide_eq_true d2, ⟨c3.1, c3.2.1⟩, ⟨b3.1, b3.2.1⟩, by omega⟩
theorem up2_at {c : Nat → Nat → Nat} {r k x : Nat} : upd2 c r k x r k = x := if_pos ⟨rfl, rfl⟩
theorem up2_row {c : Nat → Nat → Nat} {r k x i j : Nat} (h : i ≠ r) : upd2 c r k x i j = c i j := if_neg (fun e => h e.1)
theorem up2_col {c : Nat → Nat → Nat} {r k x i j : Nat} (h : j ≠ k) : upd2 c r k x i j = c i j := if_neg (fun e => h e.2)
theorem wm_le (t : Nat) : wm t ≤ 2 := by
  unfold wm
  repeat' split
  all_goals decide
theorem itm_CB {T : Nat → Nat} {q : RQ} (h : CB q.n q.c) : CB (itm T q).n (itm T q).c := by
  unfold itm
  split
  · unfold iD
    split
    · exact h
    · rename_i hf
      obtain ⟨_, h2, h3, h4, _⟩ := dg5_f (Bool.eq_false_iff.mpr hf)
      refine ⟨?_, h.2.1, h.2.2.1, fun d hd => ?_, fun s hs => ?_, fun y hy => ?_⟩
      · show (if 0 = 0 then q.n 0 + 1 else q.n 0) ≤ 6
        rw [if_pos rfl]
        omega
      · have hd2 : d < q.n 0 + 1 := hd
        by_cases e : d = q.n 0
        · subst e
          refine ⟨?_, ?_, ?_, ?_, ?_⟩
          · show 1 ≤ upd2 (upd2 (upd2 q.c 0 (q.n 0) (T (dg1 q).1)) 1 (q.n 0) (T (dg2 T q).1)) 2 (q.n 0) (if T (dg3 T q).1 = 107 then 1 else 0) 0 (q.n 0)
            rw [up2_row (by decide), up2_row (by decide), up2_at]
            exact h3.1
          · show upd2 (upd2 (upd2 q.c 0 (q.n 0) (T (dg1 q).1)) 1 (q.n 0) (T (dg2 T q).1)) 2 (q.n 0) (if T (dg3 T q).1 = 107 then 1 else 0) 0 (q.n 0) ≤ 9
            rw [up2_row (by decide), up2_row (by decide), up2_at]
            exact h3.2
          · show 1 ≤ upd2 (upd2 (upd2 q.c 0 (q.n 0) (T (dg1 q).1)) 1 (q.n 0) (T (dg2 T q).1)) 2 (q.n 0) (if T (dg3 T q).1 = 107 then 1 else 0) 1 (q.n 0)
            rw [up2_row (by decide), up2_at]
            exact h4.1
          · show upd2 (upd2 (upd2 q.c 0 (q.n 0) (T (dg1 q).1)) 1 (q.n 0) (T (dg2 T q).1)) 2 (q.n 0) (if T (dg3 T q).1 = 107 then 1 else 0) 1 (q.n 0) ≤ 9
            rw [up2_row (by decide), up2_at]
            exact h4.2
          · show upd2 (upd2 (upd2 q.c 0 (q.n 0) (T (dg1 q).1)) 1 (q.n 0) (T (dg2 T q).1)) 2 (q.n 0) (if T (dg3 T q).1 = 107 then 1 else 0) 2 (q.n 0) ≤ 1
            rw [up2_at]
            split <;> decide
        · have h9 := h.2.2.2.1 d (by omega)
          have ec : ∀ r, dgC T q r d = q.c r d := fun r => (up2_col e).trans ((up2_col e).trans (up2_col e))
          show 1 ≤ dgC T q 0 d ∧ dgC T q 0 d ≤ 9 ∧ 1 ≤ dgC T q 1 d ∧ dgC T q 1 d ≤ 9 ∧ dgC T q 2 d ≤ 1
          rw [ec, ec, ec]
          exact h9
      · have h9 := h.2.2.2.2.1 s hs
        show 1 ≤ dgC T q 3 s ∧ dgC T q 3 s ≤ 9 ∧ dgC T q 4 s ≤ 2
        rw [show dgC T q 3 s = q.c 3 s from (up2_row (by decide)).trans ((up2_row (by decide)).trans (up2_row (by decide))), show dgC T q 4 s = q.c 4 s from (up2_row (by decide)).trans ((up2_row (by decide)).trans (up2_row (by decide)))]
        exact h9
      · have h9 := h.2.2.2.2.2 y hy
        show 1 ≤ dgC T q 5 y ∧ dgC T q 5 y ≤ 99 ∧ 1 ≤ dgC T q 6 y ∧ dgC T q 6 y ≤ 9
        rw [show dgC T q 5 y = q.c 5 y from (up2_row (by decide)).trans ((up2_row (by decide)).trans (up2_row (by decide))), show dgC T q 6 y = q.c 6 y from (up2_row (by decide)).trans ((up2_row (by decide)).trans (up2_row (by decide)))]
        exact h9
  · split
    · unfold iS
      split
      · exact h
      · rename_i hf
        obtain ⟨_, h2, h3, h4, _⟩ := sd4_f (Bool.eq_false_iff.mpr hf)
        refine ⟨h.1, ?_, h.2.2.1, fun d hd => ?_, fun s hs => ?_, fun y hy => ?_⟩
        · show q.n 1 + 1 ≤ 8
          omega
        · have h9 := h.2.2.2.1 d hd
          have ec : ∀ r, r < 3 → sdC T q r d = q.c r d := fun r hr => (up2_row (by omega)).trans (up2_row (by omega))
          show 1 ≤ sdC T q 0 d ∧ sdC T q 0 d ≤ 9 ∧ 1 ≤ sdC T q 1 d ∧ sdC T q 1 d ≤ 9 ∧ sdC T q 2 d ≤ 1
          rw [ec 0 (by decide), ec 1 (by decide), ec 2 (by decide)]
          exact h9
        · have hs2 : s < q.n 1 + 1 := hs
          show 1 ≤ sdC T q 3 s ∧ sdC T q 3 s ≤ 9 ∧ sdC T q 4 s ≤ 2
          by_cases e : s = q.n 1
          · subst e
            rw [show sdC T q 3 (q.n 1) = T (sd1 q).1 from (up2_row (by decide)).trans up2_at, show sdC T q 4 (q.n 1) = wm (T (sd2 T q).1) from up2_at]
            exact ⟨h3.1, h3.2, wm_le _⟩
          · have h9 := h.2.2.2.2.1 s (by omega)
            have ec : ∀ r, sdC T q r s = q.c r s := fun r => (up2_col e).trans (up2_col e)
            rw [ec, ec]
            exact h9
        · have h9 := h.2.2.2.2.2 y hy
          have ec : ∀ r, 5 ≤ r → sdC T q r y = q.c r y := fun r hr => (up2_row (by omega)).trans (up2_row (by omega))
          show 1 ≤ sdC T q 5 y ∧ sdC T q 5 y ≤ 99 ∧ 1 ≤ sdC T q 6 y ∧ sdC T q 6 y ≤ 9
          rw [ec 5 (by decide), ec 6 (by decide)]
          exact h9
    · split
      · unfold iY
        split
        · exact h
        · rename_i hf
          obtain ⟨_, h2, h3, h4, _⟩ := yd4_f (Bool.eq_false_iff.mpr hf)
          refine ⟨h.1, h.2.1, ?_, fun d hd => ?_, fun s hs => ?_, fun y hy => ?_⟩
          · show q.n 2 + 1 ≤ 8
            omega
          · have h9 := h.2.2.2.1 d hd
            have ec : ∀ r, r < 5 → ydC T q r d = q.c r d := fun r hr => (up2_row (by omega)).trans (up2_row (by omega))
            show 1 ≤ ydC T q 0 d ∧ ydC T q 0 d ≤ 9 ∧ 1 ≤ ydC T q 1 d ∧ ydC T q 1 d ≤ 9 ∧ ydC T q 2 d ≤ 1
            rw [ec 0 (by decide), ec 1 (by decide), ec 2 (by decide)]
            exact h9
          · have h9 := h.2.2.2.2.1 s hs
            have ec : ∀ r, r < 5 → ydC T q r s = q.c r s := fun r hr => (up2_row (by omega)).trans (up2_row (by omega))
            show 1 ≤ ydC T q 3 s ∧ ydC T q 3 s ≤ 9 ∧ ydC T q 4 s ≤ 2
            rw [ec 3 (by decide), ec 4 (by decide)]
            exact h9
          · have hs2 : y < q.n 2 + 1 := hy
            show 1 ≤ ydC T q 5 y ∧ ydC T q 5 y ≤ 99 ∧ 1 ≤ ydC T q 6 y ∧ ydC T q 6 y ≤ 9
            by_cases e : y = q.n 2
            · subst e
              rw [show ydC T q 5 (q.n 2) = T (yd1 q).1 from (up2_row (by decide)).trans up2_at, show ydC T q 6 (q.n 2) = T (yd2 T q).1 from up2_at]
              exact ⟨h3.1, h3.2, h4.1, h4.2⟩
            · have h9 := h.2.2.2.2.2 y (by omega)
              have ec : ∀ r, ydC T q r y = q.c r y := fun r => (up2_col e).trans (up2_col e)
              rw [ec, ec]
              exact h9
      · exact h
theorem rd_CB (T : Nat → Nat) : ∀ m, CB (rd T m).n (rd T m).c := by
  intro m
  induction m with
  | zero => exact ⟨Nat.zero_le _, Nat.zero_le _, Nat.zero_le _, fun d hd => absurd hd (Nat.not_lt_zero _), fun d hd => absurd hd (Nat.not_lt_zero _), fun d hd => absurd hd (Nat.not_lt_zero _)⟩
  | succ m ih =>
    by_cases h : stopQ T (rd T m)
    · rw [show rd T (m + 1) = rd T m from if_pos h]
      exact ih
    · rw [rd_s h]
      exact itm_CB ih
theorem RDR_CB {T : Nat → Nat} {q : RQ} (h : RDR T q) : CB q.n q.c := by
  obtain ⟨m, e, _⟩ := h
  rw [e]
  exact rd_CB T m
def tot (q : RQ) : Nat := q.n 0 + q.n 1 + q.n 2
/-- an item that is read well: one more, further on -/
theorem itm_f {T : Nat → Nat} {q : RQ} (h : (itm T q).p.2 = false) : q.p.2 = false ∧ tot (itm T q) = tot q + 1 ∧ q.p.1 < (itm T q).p.1 := by
  unfold itm at h ⊢
  by_cases e1 : T q.p.1 = 103
  · rw [if_pos e1] at h ⊢
    unfold iD at h ⊢
    by_cases f : (dg5 T q).2 = true
    · rw [if_pos f] at h
      exact absurd f (by rw [show (dg5 T q).2 = false from h]; decide)
    · rw [if_neg f] at h ⊢
      have h5 := dg5_f h
      exact ⟨h5.1, show q.n 0 + 1 + q.n 1 + q.n 2 = q.n 0 + q.n 1 + q.n 2 + 1 by omega, h5.2.2.2.2.1⟩
  rw [if_neg e1] at h ⊢
  by_cases e2 : T q.p.1 = 104
  · rw [if_pos e2] at h ⊢
    unfold iS at h ⊢
    by_cases f : (sd4 T q).2 = true
    · rw [if_pos f] at h
      exact absurd f (by rw [show (sd4 T q).2 = false from h]; decide)
    · rw [if_neg f] at h ⊢
      have h5 := sd4_f h
      exact ⟨h5.1, show q.n 0 + (q.n 1 + 1) + q.n 2 = q.n 0 + q.n 1 + q.n 2 + 1 by omega, h5.2.2.2.1⟩
  rw [if_neg e2] at h ⊢
  by_cases e3 : T q.p.1 = 105
  · rw [if_pos e3] at h ⊢
    unfold iY at h ⊢
    by_cases f : (yd4 T q).2 = true
    · rw [if_pos f] at h
      exact absurd f (by rw [show (yd4 T q).2 = false from h]; decide)
    · rw [if_neg f] at h ⊢
      have h5 := yd4_f h
      exact ⟨h5.1, show q.n 0 + q.n 1 + (q.n 2 + 1) = q.n 0 + q.n 1 + q.n 2 + 1 by omega, h5.2.2.2.2⟩
  rw [if_neg e3] at h
  exact Bool.noConfusion h
theorem rd_m (T : Nat → Nat) : ∀ m, (∀ j, j < m → ¬ stopQ T (rd T j)) → (rd T m).p.2 = false → tot (rd T m) = m ∧ m ≤ (rd T m).p.1 := by
  intro m
  induction m with
  | zero => exact fun _ _ => ⟨rfl, Nat.le_refl _⟩
  | succ m ih =>
    intro h hf
    have hs := h m (Nat.lt_succ_self m)
    rw [rd_s hs] at hf ⊢
    obtain ⟨a, b, c⟩ := itm_f hf
    have := ih (fun j hj => h j (by omega)) a
    exact ⟨by omega, by omega⟩
