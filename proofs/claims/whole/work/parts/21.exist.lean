/-! A RUN HAS ONE END: what holds of its end holds of one answer and one state -/
theorem bif_and {b : Bool} {A : Prop} : (bif b then A else False) ↔ (b = true ∧ A) := by cases b <;> simp
theorem bif_nand {b : Bool} {A : Prop} : (bif b then False else A) ↔ (b = false ∧ A) := by cases b <;> simp
def mDet (C : Nat → List Value → mSt → Option Value → mSt → Prop) (S : Nat × (Nat → Int32)) (rt : Option FieldType) (Q : Option Value → mSt → Prop) (K : Nat → mLs → List Value → mSt → Prop) (e : mE) (pc : Nat) (ls : mLs) (sk : List Value) (st : mSt) : Prop :=
  (∃ pc' ls' sk' st', K pc' ls' sk' st' ∧ ∀ (Q' : Option Value → mSt → Prop) (K' : Nat → mLs → List Value → mSt → Prop), K' pc' ls' sk' st' → mStep C S rt Q' K' e pc ls sk st) ∨ (∃ v s, Q v s ∧ ∀ (Q' : Option Value → mSt → Prop) (K' : Nat → mLs → List Value → mSt → Prop), Q' v s → mStep C S rt Q' K' e pc ls sk st)
set_option maxHeartbeats 4000000 in
theorem mStep_det {C : Nat → List Value → mSt → Option Value → mSt → Prop} {S : Nat × (Nat → Int32)} {rt : Option FieldType} {Q : Option Value → mSt → Prop} {K : Nat → mLs → List Value → mSt → Prop} {e : mE} {pc : Nat} {ls : mLs} {sk : List Value} {st : mSt} (h : mStep C S rt Q K e pc ls sk st) : mDet C S rt Q K e pc ls sk st := by
  obtain ⟨i, len, aux, z⟩ := e
  unfold mDet
  cases i
  case ifCond c o =>
    (delta mStep at h ⊢; dsimp only at h ⊢)
    split at h
    · rename_i t x r
      by_cases hc : mIf c x 0
      · exact Or.inl ⟨_, _, _, _, h.1 hc, fun _ _ k => ⟨fun _ => k, fun n => absurd hc n⟩⟩
      · exact Or.inl ⟨_, _, _, _, h.2 hc, fun _ _ k => ⟨fun n => absurd n hc, fun _ => k⟩⟩
    · exact h.elim
  case if_icmp c o =>
    (delta mStep at h ⊢; dsimp only at h ⊢)
    split at h
    · rename_i t y x r
      by_cases hc : mIf c x y
      · exact Or.inl ⟨_, _, _, _, h.1 hc, fun _ _ k => ⟨fun _ => k, fun n => absurd hc n⟩⟩
      · exact Or.inl ⟨_, _, _, _, h.2 hc, fun _ _ k => ⟨fun n => absurd n hc, fun _ => k⟩⟩
    · exact h.elim
  case invokestatic =>
    (delta mStep at h ⊢; dsimp only at h ⊢)
    split at h
    · obtain ⟨h1, h2, v, s1, h3, h4⟩ := h
      exact Or.inl ⟨_, _, _, _, h4, fun _ _ k => ⟨h1, h2, v, s1, h3, k⟩⟩
    · exact h.elim
  case invokevirtual =>
    (delta mStep at h ⊢; dsimp only at h ⊢)
    split at h
    · obtain ⟨h1, h2, h3, v, s1, h4, h5⟩ := h
      exact Or.inl ⟨_, _, _, _, h5, fun _ _ k => ⟨h1, h2, h3, v, s1, h4, k⟩⟩
    · exact h.elim
  case tableswitch d lo hi offs =>
    (delta mStep at h ⊢; dsimp only at h ⊢)
    split at h
    · rename_i x r
      by_cases hc : x.toInt < lo ∨ hi < x.toInt
      · simp only [if_pos hc] at h ⊢
        exact Or.inl ⟨_, _, _, _, h.2, fun _ _ k => ⟨h.1, k⟩⟩
      · simp only [if_neg hc] at h ⊢
        split at h
        · rename_i o ho
          refine Or.inl ⟨_, _, _, _, h.2, fun _ _ k => ?_⟩
          first
            | exact ⟨h.1, k⟩
            | (rw [ho]; exact ⟨h.1, k⟩)
            | (simp only [ho]; exact ⟨h.1, k⟩)
        · exact h.elim
    · exact h.elim
  all_goals first
    | exact False.elim h
    | exact Or.inl ⟨_, _, _, _, h, fun _ _ k => k⟩
    | ((delta mStep at h ⊢; dsimp only at h ⊢)
       repeat' split at h
       all_goals first
         | exact h.elim
         | exact Or.inl ⟨_, _, _, _, h, fun _ _ k => k⟩
         | exact Or.inl ⟨_, _, _, _, h.2, fun _ _ k => ⟨h.1, k⟩⟩
         | exact Or.inl ⟨_, _, _, _, h.2.2, fun _ _ k => ⟨h.1, h.2.1, k⟩⟩
         | exact Or.inr ⟨_, _, h.2, fun _ _ k => ⟨h.1, k⟩⟩
         | (simp only [*, bif_and, bif_nand] at h ⊢
            first
              | exact Or.inl ⟨_, _, _, _, h, fun _ _ k => k⟩
              | exact Or.inl ⟨_, _, _, _, h.2, fun _ _ k => ⟨h.1, k⟩⟩
              | exact Or.inl ⟨_, _, _, _, h.2.2, fun _ _ k => ⟨h.1, h.2.1, k⟩⟩)
         | (simp_all; done))
theorem mOk_ex {C : Nat → List Value → mSt → Option Value → mSt → Prop} {S : Nat × (Nat → Int32)} {P : Nat → Option mE} {rt : Option FieldType} {Q : Option Value → mSt → Prop} : ∀ (n pc : Nat) (ls : mLs) (sk : List Value) (st : mSt), mOk C S P rt Q n pc ls sk st → ∃ v s, Q v s ∧ ∀ Q' : Option Value → mSt → Prop, Q' v s → mOk C S P rt Q' n pc ls sk st := by
  intro n
  induction n with
  | zero => exact fun _ _ _ _ h => h.elim
  | succ n ih =>
    intro pc ls sk st h
    change (match P pc with | none => False | some e => mStep C S rt Q (mOk C S P rt Q n) e pc ls sk st) at h
    cases hp : P pc with
    | none => rw [hp] at h; exact h.elim
    | some e =>
      rw [hp] at h
      rcases mStep_det h with ⟨pc', ls', sk', st', hk, hw⟩ | ⟨v, s, hq, hw⟩
      · obtain ⟨v, s, hv, hx⟩ := ih _ _ _ _ hk
        refine ⟨v, s, hv, fun Q' hq => ?_⟩
        show (match P pc with | none => False | some e => mStep C S rt Q' (mOk C S P rt Q' n) e pc ls sk st)
        rw [hp]
        exact hw _ _ (hx Q' hq)
      · refine ⟨v, s, hq, fun Q' hq' => ?_⟩
        show (match P pc with | none => False | some e => mStep C S rt Q' (mOk C S P rt Q' n) e pc ls sk st)
        rw [hp]
        exact hw _ _ hq'
theorem mW_ex {C : Nat → List Value → mSt → Option Value → mSt → Prop} {S : Nat × (Nat → Int32)} {P : Nat → Option mE} {rt : Option FieldType} {Q : Option Value → mSt → Prop} {pc : Nat} {ls : mLs} {sk : List Value} {st : mSt} (h : mW C S P rt Q pc ls sk st) : ∃ v s, Q v s ∧ ∀ Q' : Option Value → mSt → Prop, Q' v s → mW C S P rt Q' pc ls sk st := by
  obtain ⟨n, hn⟩ := h
  obtain ⟨v, s, hq, hw⟩ := mOk_ex n _ _ _ _ hn
  exact ⟨v, s, hq, fun Q' q => ⟨n, hw Q' q⟩⟩
