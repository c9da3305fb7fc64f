/-! FOLLOW: what a row begun can still become -/
theorem LVS_hall {E : EdT} {ρ : Nat → Nat} {r nd : Nat} : LVS E ρ r nd ↔ hall (Em E ρ nd) r nd := by
  constructor
  · rintro (h | h)
    · subst h
      intro m _
      rw [Nat.zero_mul]
      exact Nat.zero_le _
    · exact hallB_iff.mp h
  · exact fun h => Or.inr (hallB_iff.mpr h)
/-- the last test -/
theorem last_ok {E : EdT} {a : Nat → Nat} {R nd : Nat} (hR : 1 ≤ R) : fits (Em E a nd) R nd (2 ^ nd - 1) 255 ↔ LVS E a (R - 1) nd := by
  rw [LVS_hall]
  have h8 : ∀ s, s < 8 → (255 : Nat).testBit s = true := by decide
  have e1 : ∀ m, sm (fun s => min (R - (if (255 : Nat).testBit s = true then 1 else 0)) (cnt (Em E a nd) m s)) 8 = sm (fun s => min (R - 1) (cnt (Em E a nd) m s)) 8 := fun m => sm_congr 8 (fun s hs => by rw [if_pos (h8 s hs)])
  have e2 : ∀ m, m < 2 ^ nd → m &&& (2 ^ nd - 1) = m := fun m hm => by rw [Nat.and_two_pow_sub_one_eq_mod, Nat.mod_eq_of_lt hm]
  have e3 : ∀ m, R * popm m = (R - 1) * popm m + popm m := fun m => by
    obtain ⟨q, rfl⟩ : ∃ q, R = q + 1 := ⟨R - 1, by omega⟩
    rw [Nat.add_sub_cancel, Nat.add_mul, Nat.one_mul]
  constructor
  · intro h m hm
    have := h m hm
    rw [e1, e2 m hm, e3] at this
    omega
  · intro h m hm
    have := h m hm
    rw [e1, e2 m hm, e3]
    omega
theorem orT_bit {a : Nat → Nat} {d s : Nat} : (orB (fun _ => true) a d).testBit s = true ↔ ∃ k, k < d ∧ a k = s := by
  rw [orB_bit]
  exact ⟨fun ⟨k, h1, _, h2⟩ => ⟨k, h1, h2⟩, fun ⟨k, h1, h2⟩ => ⟨k, h1, rfl, h2⟩⟩
/-- a row that can be ended well passes the test ahead -/
theorem ahead_ok {E : EdT} {a ρ : Nat → Nat} {R nd d0 : Nat} (hR : 1 ≤ R) (hnd : nd ≤ 6) (hE : ∀ d s, d < 6 → s < 8 → E d s = true → d < nd) (hk : OKR E nd R ρ) (hd0 : d0 < nd) (hag : ∀ k, k < d0 + 1 → a k = ρ k) : fits (Em E a (d0 + 1)) R nd (2 ^ (d0 + 1) - 1) (orB (fun _ => true) a (d0 + 1)) := by
  obtain ⟨k1, k2, k3⟩ := hk
  obtain ⟨T, hV, hD⟩ := full_ex (E := Em E ρ nd) (r := R - 1) hnd (fun d s hd hs he => hE d s hd hs (Em_iff.mp he).1) (LVS_hall.mp k3) 48 (fun _ _ => false) (by omega) VAL_0
  have hsvb : ∀ d, (2 ^ (d0 + 1) - 1).testBit d = decide (d < d0 + 1) := fun d => Nat.testBit_two_pow_sub_one (d0 + 1) d
  have hT0 : ∀ d, d < nd → T d (ρ d) = false := fun d hd => Bool.eq_false_iff.mpr (fun h9 => (Em_iff.mp (hV.1 d (ρ d) (by omega) (k1 d hd).1 h9)).2 ⟨hd, rfl⟩)
  refine fits_of (T := fun d s => T d s || (decide (d0 < d ∧ d < nd) && decide (s = ρ d))) (fun d s hd hs ht => ?_) (fun d hd hd6 => ?_) (fun s hs => ?_)
  · have ht2 : (T d s || (decide (d0 < d ∧ d < nd) && decide (s = ρ d))) = true := ht
    rw [Bool.or_eq_true, Bool.and_eq_true] at ht2
    rcases ht2 with h | ⟨h1, h2⟩
    · have h9 := Em_iff.mp (hV.1 d s hd hs h)
      exact Em_iff.mpr ⟨h9.1, fun h8 => h9.2 ⟨by omega, by rw [← hag d h8.1]; exact h8.2⟩⟩
    · have h3 := of_decide_eq_true h1
      have h4 := of_decide_eq_true h2
      rw [h4]
      exact Em_iff.mpr ⟨(k1 d h3.2).2, fun h8 => by omega⟩
  · rw [hsvb]
    by_cases e : d < d0 + 1
    · have h1 : dD T d ≤ dD (fun d s => T d s || (decide (d0 < d ∧ d < nd) && decide (s = ρ d))) d := sm_le 8 (fun s _ => by
        show (if T d s = true then 1 else 0) ≤ (if (T d s || (decide (d0 < d ∧ d < nd) && decide (s = ρ d))) = true then 1 else 0)
        by_cases e2 : T d s = true
        · rw [e2, Bool.true_or]
          exact Nat.le_refl _
        · rw [if_neg e2]
          exact Nat.zero_le _)
      have h2 := hD d hd
      rw [if_pos (decide_eq_true e)]
      omega
    · have h1 : dD (fun d s => T d s || (decide (d0 < d ∧ d < nd) && decide (s = ρ d))) d = dD T d + 1 := by
        have h3 := sm_chg (f := fun s => if (T d s || (decide (d0 < d ∧ d < nd) && decide (s = ρ d))) = true then 1 else 0) (g := fun s => if T d s = true then 1 else 0) (i := ρ d) (fun s hs => by rw [decide_eq_false hs, Bool.and_false, Bool.or_false]) 8 (k1 d hd).1
        have h4 : (if (T d (ρ d) || (decide (d0 < d ∧ d < nd) && decide (ρ d = ρ d))) = true then 1 else 0) = 1 := by
          rw [decide_eq_true (show d0 < d ∧ d < nd from ⟨by omega, hd⟩), decide_eq_true rfl, Bool.and_self, Bool.or_true]
          rfl
        have h5 : (if T d (ρ d) = true then 1 else 0) = 0 := by
          rw [hT0 d hd]
          rfl
        show sm (fun s => if (T d s || (decide (d0 < d ∧ d < nd) && decide (s = ρ d))) = true then 1 else 0) 8 = sm (fun s => if T d s = true then 1 else 0) 8 + 1
        omega
      have h2 := hD d hd
      omega
  · have hb : dS (fun d s => T d s || (decide (d0 < d ∧ d < nd) && decide (s = ρ d))) s ≤ dS T s + sm (fun d => if (d0 < d ∧ d < nd) ∧ s = ρ d then 1 else 0) 6 := by
      unfold dS
      rw [← sm_add]
      refine sm_le 6 (fun d _ => ?_)
      show (if (T d s || (decide (d0 < d ∧ d < nd) && decide (s = ρ d))) = true then 1 else 0) ≤ _
      by_cases e : T d s = true
      · rw [e, Bool.true_or]
        exact Nat.le_add_right _ _
      · by_cases e2 : (d0 < d ∧ d < nd) ∧ s = ρ d
        · rw [if_pos e2]
          split <;> omega
        · rw [if_neg e2, if_neg e, if_neg]
          · exact Nat.zero_le _
          · intro h9
            rw [Bool.or_eq_true, Bool.and_eq_true] at h9
            rcases h9 with h9 | ⟨h8, h7⟩
            · exact e h9
            · exact e2 ⟨of_decide_eq_true h8, of_decide_eq_true h7⟩
    have hTs := hV.2.2 s hs
    have hone : sm (fun d => if (d0 < d ∧ d < nd) ∧ s = ρ d then 1 else 0) 6 ≤ 1 := by
      by_cases e : 2 ≤ sm (fun d => if (d0 < d ∧ d < nd) ∧ s = ρ d then 1 else 0) 6
      · obtain ⟨i, j, h1, h2, h3, h4⟩ := (sm_two (f := fun d => if (d0 < d ∧ d < nd) ∧ s = ρ d then 1 else 0) (fun k => by show (if (d0 < k ∧ k < nd) ∧ s = ρ k then 1 else 0) ≤ 1; split <;> decide) 6).mp e
        by_cases c1 : (d0 < i ∧ i < nd) ∧ s = ρ i
        · by_cases c2 : (d0 < j ∧ j < nd) ∧ s = ρ j
          · exact absurd (c1.2.symm.trans c2.2) (k2 j i c2.1.2 h1)
          · rw [if_neg c2] at h4
            exact absurd h4 (by decide)
        · rw [if_neg c1] at h3
          exact absurd h3 (by decide)
      · omega
    by_cases e : (orB (fun _ => true) a (d0 + 1)).testBit s = true
    · obtain ⟨k, hk1, hk2⟩ := orT_bit.mp e
      have hz : sm (fun d => if (d0 < d ∧ d < nd) ∧ s = ρ d then 1 else 0) 6 = 0 := sm_zero 6 (fun d _ => if_neg (fun h9 => by
        have h8 := k2 d k h9.1.2 (by omega)
        rw [hag k hk1] at hk2
        exact h8 (hk2.trans h9.2)))
      rw [if_pos e]
      omega
    · rw [if_neg e]
      omega
/-- bits of a spade's diggers, one less -/
theorem andn_bit {x d k : Nat} (hk : k < 6) (hd : d < 6) : (andn x (2 ^ d)).testBit k = true ↔ x.testBit k = true ∧ k ≠ d := by
  unfold andn
  have h : ∀ d, d < 6 → ∀ k, k < 6 → ((63 ^^^ 2 ^ d).testBit k = true ↔ k ≠ d) := by decide
  rw [Nat.testBit_and, Bool.and_eq_true, h d hd k hk]
theorem OBE_take {E : EdT} {ob a : Nat → Nat} {d s : Nat} (hO : OBE ob (Em E a d)) (hd : d < 6) (hs : s < 8) : OBE (updN ob s (andn (ob s) (2 ^ d))) (Em E (updN a d s) (d + 1)) := by
  intro s' hs'
  have h64 : 2 ^ d < 64 := by
    have : 2 ^ d < 2 ^ 6 := Nat.pow_lt_pow_right (by decide) hd
    exact this
  have hEm : ∀ d' s', Em E (updN a d s) (d + 1) d' s' = true ↔ Em E a d d' s' = true ∧ ¬ (d' = d ∧ s' = s) := fun d' s' => by
    rw [Em_iff, Em_iff]
    constructor
    · rintro ⟨h1, h2⟩
      refine ⟨⟨h1, fun h3 => h2 ⟨by omega, by rw [updN_n (by omega)]; exact h3.2⟩⟩, fun h3 => h2 ⟨by omega, by rw [h3.1, updN_s]; exact h3.2⟩⟩
    · rintro ⟨⟨h1, h2⟩, h3⟩
      refine ⟨h1, fun h4 => ?_⟩
      by_cases e : d' = d
      · rw [e, updN_s] at h4
        exact h3 ⟨e, h4.2⟩
      · rw [updN_n e] at h4
        exact h2 ⟨by omega, h4.2⟩
  by_cases e : s' = s
  · rw [e, updN_s]
    refine ⟨(fin64 _ (hO s hs).1 _ h64).1, fun d' hd' => ?_⟩
    rw [andn_bit hd' hd, hEm, (hO s hs).2 d' hd']
    constructor
    · rintro ⟨h1, h2⟩
      exact ⟨h1, fun h3 => h2 h3.1⟩
    · rintro ⟨h1, h2⟩
      exact ⟨h1, fun h3 => h2 ⟨h3, rfl⟩⟩
  · rw [updN_n e]
    refine ⟨(hO s' hs').1, fun d' hd' => ?_⟩
    rw [(hO s' hs').2 d' hd', hEm]
    exact ⟨fun h => ⟨h, fun h3 => e h3.2⟩, fun h => h.1⟩
def VPX (E : EdT) (a : Nat → Nat) (d : Nat) : Prop := (∀ k, k < d → a k < 8 ∧ E k (a k) = true) ∧ ∀ k e, k < d → e < k → a e ≠ a k
def PLP (n ρ a ob : Nat → Nat) (d0 : Nat) (ag : Prop) (z : Int32) (st s : mSt) : Prop := Fr [32, 33] st s ∧ (ag → z = 1 ∧ ∀ k, k < n 0 → s.1 32 k = nI (ρ k)) ∧ (¬ ag → z = 0 ∧ FO s ob ∧ ∀ k, k < d0 → s.1 32 k = nI (a k))
def PLH (n : Nat → Nat) (E : EdT) (R : Nat) (ρ a ob : Nat → Nat) (d0 c : Nat) (st : mSt) : Prop := VPX E a d0 ∧ INB ρ a d0 c ∧ st.1 31 2 = nI (n 0) ∧ st.1 31 0 = nI R ∧ FO st ob ∧ OBE ob (Em E a d0) ∧ ∀ k, k < d0 → st.1 32 k = nI (a k)
def PLC (n : Nat → Nat) (E : EdT) (R : Nat) (ρ : Nat → Nat) (D m : Nat) : Prop := ∀ (d0 : Nat) (a ob : Nat → Nat) (st : mSt), d0 + m = n 0 → PLH n E R ρ a ob d0 0 st → ∃ (z : Int32) (s : mSt), mMC mT D 17 [.ref 31, .int (nI d0), .int (nI (orB (fun _ => true) a d0))] st (some (.int z)) s ∧ PLP n ρ a ob d0 (∀ k, k < d0 → a k = ρ k) z st s
def PWC (n : Nat → Nat) (E : EdT) (R : Nat) (ρ : Nat → Nat) (D m : Nat) : Prop := ∀ (d0 s0 : Nat) (a ob : Nat → Nat) (st : mSt), d0 + (m + 1) = n 0 → s0 < 8 → E d0 s0 = true → (∀ e, e < d0 → a e ≠ s0) → PLH n E R ρ a ob d0 s0 st → ∃ (z : Int32) (s : mSt), mMC mT D 18 [.ref 31, .int (nI d0), .int (nI s0), .int (nI (orB (fun _ => true) a d0 ||| 2 ^ s0))] st (some (.int z)) s ∧ PLP n ρ a ob d0 ((∀ k, k < d0 → a k = ρ k) ∧ s0 = ρ d0) z st s
