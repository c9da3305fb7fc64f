/-! GANG of the class -/
def FG (S : List Nat) (st s : mSt) : Prop := Fr S st s ∧ Fk 1 [4, 5] st s ∧ s.2 = st.2
theorem FG.rf {S : List Nat} {st : mSt} : FG S st st := ⟨Fr.rf, Fk.rf, rfl⟩
theorem FG.trans {S : List Nat} {a b c : mSt} (h1 : FG S a b) (h2 : FG S b c) : FG S a c := ⟨Fr.trans h1.1 h2.1, Fk.trans h1.2.1 h2.2.1, h2.2.2.trans h1.2.2⟩
theorem FG.mono {S S2 : List Nat} {a b : mSt} (h : FG S a b) (hs : ∀ p, p ∈ S → p ∈ S2) : FG S2 a b := ⟨Fr.mono h.1 hs, h.2.1, h.2.2⟩
theorem F1.fg {S : List Nat} {st s : mSt} (h : F1 st s) (hs : ∀ p, p ∈ [1] → p ∈ S) : FG S st s := ⟨Fr.mono h.1 hs, h.2.1, h.2.2⟩
theorem FG.fr {S S2 : List Nat} {st s : mSt} (h : Fr S st s) (h2 : s.2 = st.2) (hs : ∀ p, p ∈ S → p ∈ S2) (h1 : 1 ∉ S) : FG S2 st s := ⟨Fr.mono h hs, Fk.fr h h1, h2⟩
def rI (b : Nat → Nat) (L : Nat) (q : RQ) : Int32 := if q.p.2 = true then nI (ps b L q.p.1) else -1
theorem nI1m {x : Nat} (h : x < 2 ^ 31) : ¬ nI x = -1 := fun e => by
  have := nI_pos' h
  rw [e] at this
  exact absurd this (by decide)
theorem pI_107 {a : Nat × Bool} {T : Nat → Nat} (h : a.2 = false) : pI (a.2 = false ∧ T a.1 = 107) = nI (if T a.1 = 107 then 1 else 0) := by
  by_cases e : T a.1 = 107
  · rw [pI_t ⟨h, e⟩, if_pos e]
    rfl
  · rw [pI_f (fun q => e q.2), if_neg e]
    rfl
set_option maxHeartbeats 4000000 in
set_option maxRecDepth 20000 in
/-- readD -/
theorem c_readD_5 (d : Nat) (T : Nat → Nat) (A : Nat) (q : RQ) (st : mSt) (hQ : XQ st A q.p) (hT : XTo st T A) (hqf : q.p.2 = false) (eT : T q.p.1 = 103) (hX : X5 st q.n q.c) (hB : CB q.n q.c) : ∃ (s : mSt), mMC mT (d + 4) 63 [.ref 1, .ref 5] st (none) s ∧ XQ s A (itm T q).p ∧ ((itm T q).p.2 = false → X5 s (itm T q).n (itm T q).c) ∧ FG [1, 5, 6, 7, 8, 9, 10, 11, 12] st s := by
  suffices H : ∀ Q : Option Value → mSt → Prop, (∀ (s : mSt), (XQ s A (itm T q).p ∧ ((itm T q).p.2 = false → X5 s (itm T q).n (itm T q).c) ∧ FG [1, 5, 6, 7, 8, 9, 10, 11, 12] st s) → Q (none) s) → mW (mMC mT (d + 3)) (0, fun _ => 0) (mAtL P_X7_readDigger) none Q 0 [some (.ref 1), some (.ref 5), none, none, none] [] st by
    obtain ⟨_, _, ⟨s, rfl, rfl, hp⟩, hw⟩ := mW_ex (H (fun vv tt => ∃ (s : mSt),  vv = none ∧ s = tt ∧ XQ s A (itm T q).p ∧ ((itm T q).p.2 = false → X5 s (itm T q).n (itm T q).c) ∧ FG [1, 5, 6, 7, 8, 9, 10, 11, 12] st s) (fun s hp => ⟨s, rfl, rfl, hp⟩))
    exact ⟨s, mI_X7_readDigger (d := d + 3) (Nat.le_of_ble_eq_true rfl) hw, hp⟩
  intro Q hq
  obtain ⟨hb0, hb1, hb2, -⟩ := id hB
  have hA := XQ_ne hQ hT (by rw [eT]; decide)
  refine w_blk 3 (pc' := 5) (ls' := [some (.ref 1), some (.ref 5), none, none, none]) (sk' := [.int (st.1 5 0), .ref 1]) (st' := st) (fun _ h => h) ?_
  rw [hX.1]
  refine w_blk 1 (pc' := 7) (ls' := [some (.ref 1), some (.ref 5), none, none, none]) (sk' := [.int 6, .int (nI (q.n 0)), .ref 1]) (st' := st) (fun _ h => h) ?_
  refine w_cmp_ge rfl (fun h1 => ?_) (fun h1 => ?_)
  · replace h1 : 6 ≤ q.n 0 := (nI_leI (a := 6) (b := (q.n 0)) (by omega) (by omega)).mp h1
    refine w_blk 1 (pc' := 15) (ls' := [some (.ref 1), some (.ref 5), none, none, none]) (sk' := [.int 0, .ref 1]) (st' := st) (fun _ h => h) ?_
    have hok : decide (q.n 0 < 6) = false := decide_eq_false (by omega)
    obtain ⟨s1, hc_2, hQ_3, hf_4⟩ := c_takeWord (d + 2) A q.p (decide (q.n 0 < 6)) 0 st hQ hqf hA (by rw [hok]; rfl)
    refine w_callV (As := [.ref 1, .int 0]) (rest := []) rfl rfl rfl (Nat.le_of_ble_eq_true rfl) (Nat.le_of_ble_eq_true rfl) (by first | exact Or.inl ⟨rfl, rfl⟩ | exact Or.inr ⟨rfl, rfl⟩) hc_2 ?_
    have hQ_5 : XQ s1 A (dg1 q) := hQ_3
    have hT_6 : XTo s1 T A := XTo_e (hf_4.1.1 3 (by decide)) hT
    have hX_7 : X5 s1 q.n q.c := X5_fr hf_4.1 (by decide) hX
    have hF_8 : FG [1, 5, 6, 7, 8, 9, 10, 11, 12] st s1 := FG.trans (FG.rf : FG [1, 5, 6, 7, 8, 9, 10, 11, 12] st st) (F1.fg hf_4 (by decide))
    refine w_blk 2 (pc' := 21) (ls' := [some (.ref 1), some (.ref 5), none, none, none]) (sk' := [.int 9, .ref 1]) (st' := s1) (fun _ h => h) ?_
    obtain ⟨s9, hc_10, hQ_11, hf_12⟩ := c_takeN9 (d + 0) T A (dg1 q) s1 hQ_5 hT_6
    refine w_callV (As := [.ref 1, .int 9]) (rest := []) rfl rfl rfl (Nat.le_of_ble_eq_true rfl) (Nat.le_of_ble_eq_true rfl) (by first | exact Or.inl ⟨rfl, rfl⟩ | exact Or.inr ⟨rfl, rfl⟩) hc_10 ?_
    have hQ_13 : XQ s9 A (dg2 T q) := hQ_11
    have hT_14 : XTo s9 T A := XTo_e (hf_12.1.1 3 (by decide)) hT_6
    have hX_15 : X5 s9 q.n q.c := X5_fr hf_12.1 (by decide) hX_7
    have hF_16 : FG [1, 5, 6, 7, 8, 9, 10, 11, 12] st s9 := FG.trans hF_8 (F1.fg hf_12 (by decide))
    refine w_blk 3 (pc' := 28) (ls' := [some (.ref 1), some (.ref 5), some (.int (nI (T (dg1 q).1))), none, none]) (sk' := [.int 9, .ref 1]) (st' := s9) (fun _ h => h) ?_
    obtain ⟨s17, hc_18, hQ_19, hf_20⟩ := c_takeN9 (d + 0) T A (dg2 T q) s9 hQ_13 hT_14
    refine w_callV (As := [.ref 1, .int 9]) (rest := []) rfl rfl rfl (Nat.le_of_ble_eq_true rfl) (Nat.le_of_ble_eq_true rfl) (by first | exact Or.inl ⟨rfl, rfl⟩ | exact Or.inr ⟨rfl, rfl⟩) hc_18 ?_
    have hQ_21 : XQ s17 A (dg3 T q) := hQ_19
    have hT_22 : XTo s17 T A := XTo_e (hf_20.1.1 3 (by decide)) hT_14
    have hX_23 : X5 s17 q.n q.c := X5_fr hf_20.1 (by decide) hX_15
    have hF_24 : FG [1, 5, 6, 7, 8, 9, 10, 11, 12] st s17 := FG.trans hF_16 (F1.fg hf_20 (by decide))
    refine w_blk 3 (pc' := 35) (ls' := [some (.ref 1), some (.ref 5), some (.int (nI (T (dg1 q).1))), some (.int (nI (T (dg2 T q).1))), none]) (sk' := [.int 107, .ref 1]) (st' := s17) (fun _ h => h) ?_
    obtain ⟨s25, hc_26, hQ_27, hf_28⟩ := c_takes (d + 1) T A (dg3 T q) 107 s17 hQ_21 hT_22 (by decide) (by decide)
    refine w_callV (As := [.ref 1, .int 107]) (rest := []) rfl rfl rfl (Nat.le_of_ble_eq_true rfl) (Nat.le_of_ble_eq_true rfl) (by first | exact Or.inl ⟨rfl, rfl⟩ | exact Or.inr ⟨rfl, rfl⟩) hc_26 ?_
    have hQ_29 : XQ s25 A (dg4 T q) := hQ_27
    have hT_30 : XTo s25 T A := XTo_e (hf_28.1.1 3 (by decide)) hT_22
    have hX_31 : X5 s25 q.n q.c := X5_fr hf_28.1 (by decide) hX_23
    have hF_32 : FG [1, 5, 6, 7, 8, 9, 10, 11, 12] st s25 := FG.trans hF_24 (F1.fg hf_28 (by decide))
    refine w_blk 2 (pc' := 41) (ls' := [some (.ref 1), some (.ref 5), some (.int (nI (T (dg1 q).1))), some (.int (nI (T (dg2 T q).1))), some (.int (pI ((dg3 T q).2 = false ∧ T (dg3 T q).1 = 107)))]) (sk' := [.ref 1]) (st' := s25) (fun _ h => h) ?_
    obtain ⟨s33, hc_34, hQ_35, hf_36⟩ := c_takeS (d + 0) T A (dg4 T q) s25 hQ_29 hT_30
    refine w_callV (As := [.ref 1]) (rest := []) rfl rfl rfl (Nat.le_of_ble_eq_true rfl) (Nat.le_of_ble_eq_true rfl) (by first | exact Or.inl ⟨rfl, rfl⟩ | exact Or.inr ⟨rfl, rfl⟩) hc_34 ?_
    have hQ_37 : XQ s33 A (dg5 T q) := hQ_35
    have hT_38 : XTo s33 T A := XTo_e (hf_36.1.1 3 (by decide)) hT_30
    have hX_39 : X5 s33 q.n q.c := X5_fr hf_36.1 (by decide) hX_31
    have hF_40 : FG [1, 5, 6, 7, 8, 9, 10, 11, 12] st s33 := FG.trans hF_32 (F1.fg hf_36 (by decide))
    refine w_blk 2 (pc' := 48) (ls' := [some (.ref 1), some (.ref 5), some (.int (nI (T (dg1 q).1))), some (.int (nI (T (dg2 T q).1))), some (.int (pI ((dg3 T q).2 = false ∧ T (dg3 T q).1 = 107)))]) (sk' := [.int (s33.1 1 5)]) (st' := s33) (fun _ h => h) ?_
    rw [hQ_37.2.1]
    refine w_if_ne rfl (fun h2 => ?_) (fun h2 => ?_)
    · replace h2 := pI_ne.mp h2
      exact w_vret rfl rfl (hq s33 ⟨by rw [itm_pD eT]; exact hQ_37, fun h => absurd h (by rw [itm_pD eT, h2]; decide), hF_40⟩)
    · replace h2 := pI_eq0.mp (Decidable.not_not.mp h2)
      have hz : (dg5 T q).2 = false := Bool.eq_false_iff.mpr h2
      have hf9 := dg5_f hz
      have hz3 := pI_107 (T := T) hf9.2.2.2.2.2
      rw [hz3]
      obtain ⟨s41, hc_42, hX_43, hf_44, h2_45⟩ := c_addD_5 (d + 1) q.n q.c (T (dg1 q).1) (T (dg2 T q).1) (if T (dg3 T q).1 = 107 then 1 else 0) s33 hX_39 hf9.2.1 (by split <;> decide)
      refine w_blk 4 (pc' := 56) (ls' := [some (.ref 1), some (.ref 5), some (.int (nI (T (dg1 q).1))), some (.int (nI (T (dg2 T q).1))), some (.int (nI (if T (dg3 T q).1 = 107 then 1 else 0)))]) (sk' := [.int (nI (if T (dg3 T q).1 = 107 then 1 else 0)), .int (nI (T (dg2 T q).1)), .int (nI (T (dg1 q).1)), .ref 5]) (st' := s33) (fun _ h => h) ?_
      refine w_callV (As := [.ref 5, .int (nI (T (dg1 q).1)), .int (nI (T (dg2 T q).1)), .int (nI (if T (dg3 T q).1 = 107 then 1 else 0))]) (rest := []) rfl rfl rfl (Nat.le_of_ble_eq_true rfl) (Nat.le_of_ble_eq_true rfl) (by first | exact Or.inl ⟨rfl, rfl⟩ | exact Or.inr ⟨rfl, rfl⟩) hc_42 ?_
      obtain ⟨g1, g2⟩ := itm_D eT hz
      exact w_vret rfl rfl (hq s41 ⟨by rw [itm_pD eT]; exact XQ_e (hf_44.1 1 (by decide)) hQ_37, fun _ => by rw [g1, g2]; exact hX_43, FG.trans hF_40 (FG.fr hf_44 h2_45 (by decide) (by decide))⟩)
  · replace h1 : ¬ (6 ≤ q.n 0) := fun hh => h1 ((nI_leI (a := 6) (b := (q.n 0)) (by omega) (by omega)).mpr hh)
    refine w_blk 2 (pc' := 15) (ls' := [some (.ref 1), some (.ref 5), none, none, none]) (sk' := [.int 1, .ref 1]) (st' := st) (fun _ h => h) ?_
    have hok : decide (q.n 0 < 6) = true := decide_eq_true (by omega)
    obtain ⟨s46, hc_47, hQ_48, hf_49⟩ := c_takeWord (d + 2) A q.p (decide (q.n 0 < 6)) 1 st hQ hqf hA (by rw [hok]; rfl)
    refine w_callV (As := [.ref 1, .int 1]) (rest := []) rfl rfl rfl (Nat.le_of_ble_eq_true rfl) (Nat.le_of_ble_eq_true rfl) (by first | exact Or.inl ⟨rfl, rfl⟩ | exact Or.inr ⟨rfl, rfl⟩) hc_47 ?_
    have hQ_50 : XQ s46 A (dg1 q) := hQ_48
    have hT_51 : XTo s46 T A := XTo_e (hf_49.1.1 3 (by decide)) hT
    have hX_52 : X5 s46 q.n q.c := X5_fr hf_49.1 (by decide) hX
    have hF_53 : FG [1, 5, 6, 7, 8, 9, 10, 11, 12] st s46 := FG.trans (FG.rf : FG [1, 5, 6, 7, 8, 9, 10, 11, 12] st st) (F1.fg hf_49 (by decide))
    refine w_blk 2 (pc' := 21) (ls' := [some (.ref 1), some (.ref 5), none, none, none]) (sk' := [.int 9, .ref 1]) (st' := s46) (fun _ h => h) ?_
    obtain ⟨s54, hc_55, hQ_56, hf_57⟩ := c_takeN9 (d + 0) T A (dg1 q) s46 hQ_50 hT_51
    refine w_callV (As := [.ref 1, .int 9]) (rest := []) rfl rfl rfl (Nat.le_of_ble_eq_true rfl) (Nat.le_of_ble_eq_true rfl) (by first | exact Or.inl ⟨rfl, rfl⟩ | exact Or.inr ⟨rfl, rfl⟩) hc_55 ?_
    have hQ_58 : XQ s54 A (dg2 T q) := hQ_56
    have hT_59 : XTo s54 T A := XTo_e (hf_57.1.1 3 (by decide)) hT_51
    have hX_60 : X5 s54 q.n q.c := X5_fr hf_57.1 (by decide) hX_52
    have hF_61 : FG [1, 5, 6, 7, 8, 9, 10, 11, 12] st s54 := FG.trans hF_53 (F1.fg hf_57 (by decide))
    refine w_blk 3 (pc' := 28) (ls' := [some (.ref 1), some (.ref 5), some (.int (nI (T (dg1 q).1))), none, none]) (sk' := [.int 9, .ref 1]) (st' := s54) (fun _ h => h) ?_
    obtain ⟨s62, hc_63, hQ_64, hf_65⟩ := c_takeN9 (d + 0) T A (dg2 T q) s54 hQ_58 hT_59
    refine w_callV (As := [.ref 1, .int 9]) (rest := []) rfl rfl rfl (Nat.le_of_ble_eq_true rfl) (Nat.le_of_ble_eq_true rfl) (by first | exact Or.inl ⟨rfl, rfl⟩ | exact Or.inr ⟨rfl, rfl⟩) hc_63 ?_
    have hQ_66 : XQ s62 A (dg3 T q) := hQ_64
    have hT_67 : XTo s62 T A := XTo_e (hf_65.1.1 3 (by decide)) hT_59
    have hX_68 : X5 s62 q.n q.c := X5_fr hf_65.1 (by decide) hX_60
    have hF_69 : FG [1, 5, 6, 7, 8, 9, 10, 11, 12] st s62 := FG.trans hF_61 (F1.fg hf_65 (by decide))
    refine w_blk 3 (pc' := 35) (ls' := [some (.ref 1), some (.ref 5), some (.int (nI (T (dg1 q).1))), some (.int (nI (T (dg2 T q).1))), none]) (sk' := [.int 107, .ref 1]) (st' := s62) (fun _ h => h) ?_
    obtain ⟨s70, hc_71, hQ_72, hf_73⟩ := c_takes (d + 1) T A (dg3 T q) 107 s62 hQ_66 hT_67 (by decide) (by decide)
    refine w_callV (As := [.ref 1, .int 107]) (rest := []) rfl rfl rfl (Nat.le_of_ble_eq_true rfl) (Nat.le_of_ble_eq_true rfl) (by first | exact Or.inl ⟨rfl, rfl⟩ | exact Or.inr ⟨rfl, rfl⟩) hc_71 ?_
    have hQ_74 : XQ s70 A (dg4 T q) := hQ_72
    have hT_75 : XTo s70 T A := XTo_e (hf_73.1.1 3 (by decide)) hT_67
    have hX_76 : X5 s70 q.n q.c := X5_fr hf_73.1 (by decide) hX_68
    have hF_77 : FG [1, 5, 6, 7, 8, 9, 10, 11, 12] st s70 := FG.trans hF_69 (F1.fg hf_73 (by decide))
    refine w_blk 2 (pc' := 41) (ls' := [some (.ref 1), some (.ref 5), some (.int (nI (T (dg1 q).1))), some (.int (nI (T (dg2 T q).1))), some (.int (pI ((dg3 T q).2 = false ∧ T (dg3 T q).1 = 107)))]) (sk' := [.ref 1]) (st' := s70) (fun _ h => h) ?_
    obtain ⟨s78, hc_79, hQ_80, hf_81⟩ := c_takeS (d + 0) T A (dg4 T q) s70 hQ_74 hT_75
    refine w_callV (As := [.ref 1]) (rest := []) rfl rfl rfl (Nat.le_of_ble_eq_true rfl) (Nat.le_of_ble_eq_true rfl) (by first | exact Or.inl ⟨rfl, rfl⟩ | exact Or.inr ⟨rfl, rfl⟩) hc_79 ?_
    have hQ_82 : XQ s78 A (dg5 T q) := hQ_80
    have hT_83 : XTo s78 T A := XTo_e (hf_81.1.1 3 (by decide)) hT_75
    have hX_84 : X5 s78 q.n q.c := X5_fr hf_81.1 (by decide) hX_76
    have hF_85 : FG [1, 5, 6, 7, 8, 9, 10, 11, 12] st s78 := FG.trans hF_77 (F1.fg hf_81 (by decide))
    refine w_blk 2 (pc' := 48) (ls' := [some (.ref 1), some (.ref 5), some (.int (nI (T (dg1 q).1))), some (.int (nI (T (dg2 T q).1))), some (.int (pI ((dg3 T q).2 = false ∧ T (dg3 T q).1 = 107)))]) (sk' := [.int (s78.1 1 5)]) (st' := s78) (fun _ h => h) ?_
    rw [hQ_82.2.1]
    refine w_if_ne rfl (fun h2 => ?_) (fun h2 => ?_)
    · replace h2 := pI_ne.mp h2
      exact w_vret rfl rfl (hq s78 ⟨by rw [itm_pD eT]; exact hQ_82, fun h => absurd h (by rw [itm_pD eT, h2]; decide), hF_85⟩)
    · replace h2 := pI_eq0.mp (Decidable.not_not.mp h2)
      have hz : (dg5 T q).2 = false := Bool.eq_false_iff.mpr h2
      have hf9 := dg5_f hz
      have hz3 := pI_107 (T := T) hf9.2.2.2.2.2
      rw [hz3]
      obtain ⟨s86, hc_87, hX_88, hf_89, h2_90⟩ := c_addD_5 (d + 1) q.n q.c (T (dg1 q).1) (T (dg2 T q).1) (if T (dg3 T q).1 = 107 then 1 else 0) s78 hX_84 hf9.2.1 (by split <;> decide)
      refine w_blk 4 (pc' := 56) (ls' := [some (.ref 1), some (.ref 5), some (.int (nI (T (dg1 q).1))), some (.int (nI (T (dg2 T q).1))), some (.int (nI (if T (dg3 T q).1 = 107 then 1 else 0)))]) (sk' := [.int (nI (if T (dg3 T q).1 = 107 then 1 else 0)), .int (nI (T (dg2 T q).1)), .int (nI (T (dg1 q).1)), .ref 5]) (st' := s78) (fun _ h => h) ?_
      refine w_callV (As := [.ref 5, .int (nI (T (dg1 q).1)), .int (nI (T (dg2 T q).1)), .int (nI (if T (dg3 T q).1 = 107 then 1 else 0))]) (rest := []) rfl rfl rfl (Nat.le_of_ble_eq_true rfl) (Nat.le_of_ble_eq_true rfl) (by first | exact Or.inl ⟨rfl, rfl⟩ | exact Or.inr ⟨rfl, rfl⟩) hc_87 ?_
      obtain ⟨g1, g2⟩ := itm_D eT hz
      exact w_vret rfl rfl (hq s86 ⟨by rw [itm_pD eT]; exact XQ_e (hf_89.1 1 (by decide)) hQ_82, fun _ => by rw [g1, g2]; exact hX_88, FG.trans hF_85 (FG.fr hf_89 h2_90 (by decide) (by decide))⟩)
set_option maxHeartbeats 4000000 in
set_option maxRecDepth 20000 in
/-- readS -/
theorem c_readS_5 (d : Nat) (T : Nat → Nat) (A : Nat) (q : RQ) (st : mSt) (hQ : XQ st A q.p) (hT : XTo st T A) (hqf : q.p.2 = false) (eT : T q.p.1 = 104) (hX : X5 st q.n q.c) (hB : CB q.n q.c) : ∃ (s : mSt), mMC mT (d + 4) 64 [.ref 1, .ref 5] st (none) s ∧ XQ s A (itm T q).p ∧ ((itm T q).p.2 = false → X5 s (itm T q).n (itm T q).c) ∧ FG [1, 5, 6, 7, 8, 9, 10, 11, 12] st s := by
  suffices H : ∀ Q : Option Value → mSt → Prop, (∀ (s : mSt), (XQ s A (itm T q).p ∧ ((itm T q).p.2 = false → X5 s (itm T q).n (itm T q).c) ∧ FG [1, 5, 6, 7, 8, 9, 10, 11, 12] st s) → Q (none) s) → mW (mMC mT (d + 3)) (0, fun _ => 0) (mAtL P_X7_readSpade) none Q 0 [some (.ref 1), some (.ref 5), none, none] [] st by
    obtain ⟨_, _, ⟨s, rfl, rfl, hp⟩, hw⟩ := mW_ex (H (fun vv tt => ∃ (s : mSt),  vv = none ∧ s = tt ∧ XQ s A (itm T q).p ∧ ((itm T q).p.2 = false → X5 s (itm T q).n (itm T q).c) ∧ FG [1, 5, 6, 7, 8, 9, 10, 11, 12] st s) (fun s hp => ⟨s, rfl, rfl, hp⟩))
    exact ⟨s, mI_X7_readSpade (d := d + 3) (Nat.le_of_ble_eq_true rfl) hw, hp⟩
  intro Q hq
  obtain ⟨hb0, hb1, hb2, -⟩ := id hB
  have hA := XQ_ne hQ hT (by rw [eT]; decide)
  refine w_blk 3 (pc' := 5) (ls' := [some (.ref 1), some (.ref 5), none, none]) (sk' := [.int (st.1 5 1), .ref 1]) (st' := st) (fun _ h => h) ?_
  rw [hX.2.1]
  refine w_blk 1 (pc' := 7) (ls' := [some (.ref 1), some (.ref 5), none, none]) (sk' := [.int 8, .int (nI (q.n 1)), .ref 1]) (st' := st) (fun _ h => h) ?_
  refine w_cmp_ge rfl (fun h1 => ?_) (fun h1 => ?_)
  · replace h1 : 8 ≤ q.n 1 := (nI_leI (a := 8) (b := (q.n 1)) (by omega) (by omega)).mp h1
    refine w_blk 1 (pc' := 15) (ls' := [some (.ref 1), some (.ref 5), none, none]) (sk' := [.int 0, .ref 1]) (st' := st) (fun _ h => h) ?_
    have hok : decide (q.n 1 < 8) = false := decide_eq_false (by omega)
    obtain ⟨s1, hc_2, hQ_3, hf_4⟩ := c_takeWord (d + 2) A q.p (decide (q.n 1 < 8)) 0 st hQ hqf hA (by rw [hok]; rfl)
    refine w_callV (As := [.ref 1, .int 0]) (rest := []) rfl rfl rfl (Nat.le_of_ble_eq_true rfl) (Nat.le_of_ble_eq_true rfl) (by first | exact Or.inl ⟨rfl, rfl⟩ | exact Or.inr ⟨rfl, rfl⟩) hc_2 ?_
    have hQ_5 : XQ s1 A (sd1 q) := hQ_3
    have hT_6 : XTo s1 T A := XTo_e (hf_4.1.1 3 (by decide)) hT
    have hX_7 : X5 s1 q.n q.c := X5_fr hf_4.1 (by decide) hX
    have hF_8 : FG [1, 5, 6, 7, 8, 9, 10, 11, 12] st s1 := FG.trans (FG.rf : FG [1, 5, 6, 7, 8, 9, 10, 11, 12] st st) (F1.fg hf_4 (by decide))
    refine w_blk 2 (pc' := 21) (ls' := [some (.ref 1), some (.ref 5), none, none]) (sk' := [.int 9, .ref 1]) (st' := s1) (fun _ h => h) ?_
    obtain ⟨s9, hc_10, hQ_11, hf_12⟩ := c_takeN9 (d + 0) T A (sd1 q) s1 hQ_5 hT_6
    refine w_callV (As := [.ref 1, .int 9]) (rest := []) rfl rfl rfl (Nat.le_of_ble_eq_true rfl) (Nat.le_of_ble_eq_true rfl) (by first | exact Or.inl ⟨rfl, rfl⟩ | exact Or.inr ⟨rfl, rfl⟩) hc_10 ?_
    have hQ_13 : XQ s9 A (sd2 T q) := hQ_11
    have hT_14 : XTo s9 T A := XTo_e (hf_12.1.1 3 (by decide)) hT_6
    have hX_15 : X5 s9 q.n q.c := X5_fr hf_12.1 (by decide) hX_7
    have hF_16 : FG [1, 5, 6, 7, 8, 9, 10, 11, 12] st s9 := FG.trans hF_8 (F1.fg hf_12 (by decide))
    refine w_blk 3 (pc' := 28) (ls' := [some (.ref 1), some (.ref 5), some (.int (nI (T (sd1 q).1))), none]) (sk' := [.int 106, .ref 1]) (st' := s9) (fun _ h => h) ?_
    obtain ⟨s17, hc_18, hQ_19, hf_20⟩ := c_takes (d + 1) T A (sd2 T q) 106 s9 hQ_13 hT_14 (by decide) (by decide)
    refine w_callV (As := [.ref 1, .int 106]) (rest := []) rfl rfl rfl (Nat.le_of_ble_eq_true rfl) (Nat.le_of_ble_eq_true rfl) (by first | exact Or.inl ⟨rfl, rfl⟩ | exact Or.inr ⟨rfl, rfl⟩) hc_18 ?_
    refine w_if_eq rfl (fun h7 => ?_) (fun h7 => ?_)
    · replace h7 := pI_eq0.mp h7
      refine w_blk 2 (pc' := 41) (ls' := [some (.ref 1), some (.ref 5), some (.int (nI (T (sd1 q).1))), none]) (sk' := [.int 107, .ref 1]) (st' := s17) (fun _ h => h) ?_
      have hsame : opt (decide (T (sd2 T q).1 = 106)) (sd2 T q) = sd2 T q := by
        rcases hz2 : (sd2 T q).2 with _ | _
        · exact opt_no (decide_eq_false (fun e => h7 ⟨hz2, e⟩))
        · exact opt_st hz2
      rw [hsame] at hQ_19
      obtain ⟨s21, hc_22, hQ_23, hf_24⟩ := c_takes (d + 1) T A (sd2 T q) 107 s17 hQ_19 (XTo_e (hf_20.1.1 3 (by decide)) hT_14) (by decide) (by decide)
      have hf12 := F1.trans hf_20 hf_24
      refine w_callV (As := [.ref 1, .int 107]) (rest := []) rfl rfl rfl (Nat.le_of_ble_eq_true rfl) (Nat.le_of_ble_eq_true rfl) (by first | exact Or.inl ⟨rfl, rfl⟩ | exact Or.inr ⟨rfl, rfl⟩) hc_22 ?_
      refine w_if_eq rfl (fun h8 => ?_) (fun h8 => ?_)
      · replace h8 := pI_eq0.mp h8
        refine w_blk 1 (pc' := 52) (ls' := [some (.ref 1), some (.ref 5), some (.int (nI (T (sd1 q).1))), none]) (sk' := [.int 0]) (st' := s21) (fun _ h => h) ?_
        have hsd3 : sd3 T q = sd2 T q := by
          rcases hz2 : (sd2 T q).2 with _ | _
          · exact opt_no (decide_eq_false (fun e => e.elim (fun e => h7 ⟨hz2, e⟩) (fun e => h8 ⟨hz2, e⟩)))
          · exact opt_st hz2
        have hsam2 : opt (decide (T (sd2 T q).1 = 107)) (sd2 T q) = sd2 T q := by
          rcases hz2 : (sd2 T q).2 with _ | _
          · exact opt_no (decide_eq_false (fun e => h8 ⟨hz2, e⟩))
          · exact opt_st hz2
        rw [hsam2] at hQ_23
        have hQ_25 : XQ s21 A (sd3 T q) := by rw [show sd3 T q = _ from hsd3]; exact hQ_23
        have hT_26 : XTo s21 T A := XTo_e (hf12.1.1 3 (by decide)) hT_14
        have hX_27 : X5 s21 q.n q.c := X5_fr hf12.1 (by decide) hX_15
        have hF_28 : FG [1, 5, 6, 7, 8, 9, 10, 11, 12] st s21 := FG.trans hF_16 (F1.fg hf12 (by decide))
        have hwm : (sd2 T q).2 = false → 0 = wm (T (sd2 T q).1) := fun hz2 => ((if_neg (fun e => h7 ⟨hz2, e⟩)).trans (if_neg (fun e => h8 ⟨hz2, e⟩))).symm
        refine w_blk 2 (pc' := 54) (ls' := [some (.ref 1), some (.ref 5), some (.int (nI (T (sd1 q).1))), some (.int 0)]) (sk' := [.ref 1]) (st' := s21) (fun _ h => h) ?_
        obtain ⟨s29, hc_30, hQ_31, hf_32⟩ := c_takeS (d + 0) T A (sd3 T q) s21 hQ_25 hT_26
        refine w_callV (As := [.ref 1]) (rest := []) rfl rfl rfl (Nat.le_of_ble_eq_true rfl) (Nat.le_of_ble_eq_true rfl) (by first | exact Or.inl ⟨rfl, rfl⟩ | exact Or.inr ⟨rfl, rfl⟩) hc_30 ?_
        replace hQ_31 : XQ s29 A (sd4 T q) := hQ_31
        have hX_33 : X5 s29 q.n q.c := X5_fr hf_32.1 (by decide) hX_27
        have hF_34 : FG [1, 5, 6, 7, 8, 9, 10, 11, 12] st s29 := FG.trans hF_28 (F1.fg hf_32 (by decide))
        refine w_blk 2 (pc' := 61) (ls' := [some (.ref 1), some (.ref 5), some (.int (nI (T (sd1 q).1))), some (.int 0)]) (sk' := [.int (s29.1 1 5)]) (st' := s29) (fun _ h => h) ?_
        rw [hQ_31.2.1]
        refine w_if_ne rfl (fun h2 => ?_) (fun h2 => ?_)
        · replace h2 := pI_ne.mp h2
          exact w_vret rfl rfl (hq s29 ⟨by rw [itm_pS eT]; exact hQ_31, fun h => absurd h (by rw [itm_pS eT, h2]; decide), hF_34⟩)
        · replace h2 := pI_eq0.mp (Decidable.not_not.mp h2)
          have hz : (sd4 T q).2 = false := Bool.eq_false_iff.mpr h2
          have hf9 := sd4_f hz
          have hwm2 := hwm hf9.2.2.2.2
          obtain ⟨s35, hc_36, hX_37, hf_38, h2_39⟩ := c_addS_5 (d + 1) q.n q.c (T (sd1 q).1) 0 s29 hX_33 hf9.2.1
          refine w_blk 3 (pc' := 67) (ls' := [some (.ref 1), some (.ref 5), some (.int (nI (T (sd1 q).1))), some (.int 0)]) (sk' := [.int 0, .int (nI (T (sd1 q).1)), .ref 5]) (st' := s29) (fun _ h => h) ?_
          refine w_callV (As := [.ref 5, .int (nI (T (sd1 q).1)), .int 0]) (rest := []) rfl rfl rfl (Nat.le_of_ble_eq_true rfl) (Nat.le_of_ble_eq_true rfl) (by first | exact Or.inl ⟨rfl, rfl⟩ | exact Or.inr ⟨rfl, rfl⟩) hc_36 ?_
          obtain ⟨g1, g2⟩ := itm_S eT hz
          have g3 : sdC T q = upd2 (upd2 q.c 3 (q.n 1) (T (sd1 q).1)) 4 (q.n 1) 0 := by unfold sdC; rw [← hwm2]
          exact w_vret rfl rfl (hq s35 ⟨by rw [itm_pS eT]; exact XQ_e (hf_38.1 1 (by decide)) hQ_31, fun _ => by rw [g1, g2, g3]; exact hX_37, FG.trans hF_34 (FG.fr hf_38 h2_39 (by decide) (by decide))⟩)
      · replace h8 := pI_ne.mp h8
        refine w_blk 2 (pc' := 52) (ls' := [some (.ref 1), some (.ref 5), some (.int (nI (T (sd1 q).1))), none]) (sk' := [.int 2]) (st' := s21) (fun _ h => h) ?_
        have hsd3 : sd3 T q = ((sd2 T q).1 + 1, (sd2 T q).2) := opt_go h8.1 (decide_eq_true (Or.inr h8.2))
        rw [opt_go h8.1 (decide_eq_true h8.2)] at hQ_23
        have hQ_40 : XQ s21 A (sd3 T q) := by rw [show sd3 T q = _ from hsd3]; exact hQ_23
        have hT_41 : XTo s21 T A := XTo_e (hf12.1.1 3 (by decide)) hT_14
        have hX_42 : X5 s21 q.n q.c := X5_fr hf12.1 (by decide) hX_15
        have hF_43 : FG [1, 5, 6, 7, 8, 9, 10, 11, 12] st s21 := FG.trans hF_16 (F1.fg hf12 (by decide))
        have hwm : (sd2 T q).2 = false → 2 = wm (T (sd2 T q).1) := fun hz2 => ((if_neg (by rw [h8.2]; decide)).trans (if_pos h8.2)).symm
        refine w_blk 2 (pc' := 54) (ls' := [some (.ref 1), some (.ref 5), some (.int (nI (T (sd1 q).1))), some (.int 2)]) (sk' := [.ref 1]) (st' := s21) (fun _ h => h) ?_
        obtain ⟨s44, hc_45, hQ_46, hf_47⟩ := c_takeS (d + 0) T A (sd3 T q) s21 hQ_40 hT_41
        refine w_callV (As := [.ref 1]) (rest := []) rfl rfl rfl (Nat.le_of_ble_eq_true rfl) (Nat.le_of_ble_eq_true rfl) (by first | exact Or.inl ⟨rfl, rfl⟩ | exact Or.inr ⟨rfl, rfl⟩) hc_45 ?_
        replace hQ_46 : XQ s44 A (sd4 T q) := hQ_46
        have hX_48 : X5 s44 q.n q.c := X5_fr hf_47.1 (by decide) hX_42
        have hF_49 : FG [1, 5, 6, 7, 8, 9, 10, 11, 12] st s44 := FG.trans hF_43 (F1.fg hf_47 (by decide))
        refine w_blk 2 (pc' := 61) (ls' := [some (.ref 1), some (.ref 5), some (.int (nI (T (sd1 q).1))), some (.int 2)]) (sk' := [.int (s44.1 1 5)]) (st' := s44) (fun _ h => h) ?_
        rw [hQ_46.2.1]
        refine w_if_ne rfl (fun h2 => ?_) (fun h2 => ?_)
        · replace h2 := pI_ne.mp h2
          exact w_vret rfl rfl (hq s44 ⟨by rw [itm_pS eT]; exact hQ_46, fun h => absurd h (by rw [itm_pS eT, h2]; decide), hF_49⟩)
        · replace h2 := pI_eq0.mp (Decidable.not_not.mp h2)
          have hz : (sd4 T q).2 = false := Bool.eq_false_iff.mpr h2
          have hf9 := sd4_f hz
          have hwm2 := hwm hf9.2.2.2.2
          obtain ⟨s50, hc_51, hX_52, hf_53, h2_54⟩ := c_addS_5 (d + 1) q.n q.c (T (sd1 q).1) 2 s44 hX_48 hf9.2.1
          refine w_blk 3 (pc' := 67) (ls' := [some (.ref 1), some (.ref 5), some (.int (nI (T (sd1 q).1))), some (.int 2)]) (sk' := [.int 2, .int (nI (T (sd1 q).1)), .ref 5]) (st' := s44) (fun _ h => h) ?_
          refine w_callV (As := [.ref 5, .int (nI (T (sd1 q).1)), .int 2]) (rest := []) rfl rfl rfl (Nat.le_of_ble_eq_true rfl) (Nat.le_of_ble_eq_true rfl) (by first | exact Or.inl ⟨rfl, rfl⟩ | exact Or.inr ⟨rfl, rfl⟩) hc_51 ?_
          obtain ⟨g1, g2⟩ := itm_S eT hz
          have g3 : sdC T q = upd2 (upd2 q.c 3 (q.n 1) (T (sd1 q).1)) 4 (q.n 1) 2 := by unfold sdC; rw [← hwm2]
          exact w_vret rfl rfl (hq s50 ⟨by rw [itm_pS eT]; exact XQ_e (hf_53.1 1 (by decide)) hQ_46, fun _ => by rw [g1, g2, g3]; exact hX_52, FG.trans hF_49 (FG.fr hf_53 h2_54 (by decide) (by decide))⟩)
    · replace h7 := pI_ne.mp h7
      refine w_blk 2 (pc' := 52) (ls' := [some (.ref 1), some (.ref 5), some (.int (nI (T (sd1 q).1))), none]) (sk' := [.int 1]) (st' := s17) (fun _ h => h) ?_
      have hsd3 : sd3 T q = ((sd2 T q).1 + 1, (sd2 T q).2) := opt_go h7.1 (decide_eq_true (Or.inl h7.2))
      rw [opt_go h7.1 (decide_eq_true h7.2)] at hQ_19
      have hQ_55 : XQ s17 A (sd3 T q) := by rw [show sd3 T q = _ from hsd3]; exact hQ_19
      have hT_56 : XTo s17 T A := XTo_e (hf_20.1.1 3 (by decide)) hT_14
      have hX_57 : X5 s17 q.n q.c := X5_fr hf_20.1 (by decide) hX_15
      have hF_58 : FG [1, 5, 6, 7, 8, 9, 10, 11, 12] st s17 := FG.trans hF_16 (F1.fg hf_20 (by decide))
      have hwm : (sd2 T q).2 = false → 1 = wm (T (sd2 T q).1) := fun hz2 => (if_pos h7.2).symm
      refine w_blk 2 (pc' := 54) (ls' := [some (.ref 1), some (.ref 5), some (.int (nI (T (sd1 q).1))), some (.int 1)]) (sk' := [.ref 1]) (st' := s17) (fun _ h => h) ?_
      obtain ⟨s59, hc_60, hQ_61, hf_62⟩ := c_takeS (d + 0) T A (sd3 T q) s17 hQ_55 hT_56
      refine w_callV (As := [.ref 1]) (rest := []) rfl rfl rfl (Nat.le_of_ble_eq_true rfl) (Nat.le_of_ble_eq_true rfl) (by first | exact Or.inl ⟨rfl, rfl⟩ | exact Or.inr ⟨rfl, rfl⟩) hc_60 ?_
      replace hQ_61 : XQ s59 A (sd4 T q) := hQ_61
      have hX_63 : X5 s59 q.n q.c := X5_fr hf_62.1 (by decide) hX_57
      have hF_64 : FG [1, 5, 6, 7, 8, 9, 10, 11, 12] st s59 := FG.trans hF_58 (F1.fg hf_62 (by decide))
      refine w_blk 2 (pc' := 61) (ls' := [some (.ref 1), some (.ref 5), some (.int (nI (T (sd1 q).1))), some (.int 1)]) (sk' := [.int (s59.1 1 5)]) (st' := s59) (fun _ h => h) ?_
      rw [hQ_61.2.1]
      refine w_if_ne rfl (fun h2 => ?_) (fun h2 => ?_)
      · replace h2 := pI_ne.mp h2
        exact w_vret rfl rfl (hq s59 ⟨by rw [itm_pS eT]; exact hQ_61, fun h => absurd h (by rw [itm_pS eT, h2]; decide), hF_64⟩)
      · replace h2 := pI_eq0.mp (Decidable.not_not.mp h2)
        have hz : (sd4 T q).2 = false := Bool.eq_false_iff.mpr h2
        have hf9 := sd4_f hz
        have hwm2 := hwm hf9.2.2.2.2
        obtain ⟨s65, hc_66, hX_67, hf_68, h2_69⟩ := c_addS_5 (d + 1) q.n q.c (T (sd1 q).1) 1 s59 hX_63 hf9.2.1
        refine w_blk 3 (pc' := 67) (ls' := [some (.ref 1), some (.ref 5), some (.int (nI (T (sd1 q).1))), some (.int 1)]) (sk' := [.int 1, .int (nI (T (sd1 q).1)), .ref 5]) (st' := s59) (fun _ h => h) ?_
        refine w_callV (As := [.ref 5, .int (nI (T (sd1 q).1)), .int 1]) (rest := []) rfl rfl rfl (Nat.le_of_ble_eq_true rfl) (Nat.le_of_ble_eq_true rfl) (by first | exact Or.inl ⟨rfl, rfl⟩ | exact Or.inr ⟨rfl, rfl⟩) hc_66 ?_
        obtain ⟨g1, g2⟩ := itm_S eT hz
        have g3 : sdC T q = upd2 (upd2 q.c 3 (q.n 1) (T (sd1 q).1)) 4 (q.n 1) 1 := by unfold sdC; rw [← hwm2]
        exact w_vret rfl rfl (hq s65 ⟨by rw [itm_pS eT]; exact XQ_e (hf_68.1 1 (by decide)) hQ_61, fun _ => by rw [g1, g2, g3]; exact hX_67, FG.trans hF_64 (FG.fr hf_68 h2_69 (by decide) (by decide))⟩)
  · replace h1 : ¬ (8 ≤ q.n 1) := fun hh => h1 ((nI_leI (a := 8) (b := (q.n 1)) (by omega) (by omega)).mpr hh)
    refine w_blk 2 (pc' := 15) (ls' := [some (.ref 1), some (.ref 5), none, none]) (sk' := [.int 1, .ref 1]) (st' := st) (fun _ h => h) ?_
    have hok : decide (q.n 1 < 8) = true := decide_eq_true (by omega)
    obtain ⟨s70, hc_71, hQ_72, hf_73⟩ := c_takeWord (d + 2) A q.p (decide (q.n 1 < 8)) 1 st hQ hqf hA (by rw [hok]; rfl)
    refine w_callV (As := [.ref 1, .int 1]) (rest := []) rfl rfl rfl (Nat.le_of_ble_eq_true rfl) (Nat.le_of_ble_eq_true rfl) (by first | exact Or.inl ⟨rfl, rfl⟩ | exact Or.inr ⟨rfl, rfl⟩) hc_71 ?_
    have hQ_74 : XQ s70 A (sd1 q) := hQ_72
    have hT_75 : XTo s70 T A := XTo_e (hf_73.1.1 3 (by decide)) hT
    have hX_76 : X5 s70 q.n q.c := X5_fr hf_73.1 (by decide) hX
    have hF_77 : FG [1, 5, 6, 7, 8, 9, 10, 11, 12] st s70 := FG.trans (FG.rf : FG [1, 5, 6, 7, 8, 9, 10, 11, 12] st st) (F1.fg hf_73 (by decide))
    refine w_blk 2 (pc' := 21) (ls' := [some (.ref 1), some (.ref 5), none, none]) (sk' := [.int 9, .ref 1]) (st' := s70) (fun _ h => h) ?_
    obtain ⟨s78, hc_79, hQ_80, hf_81⟩ := c_takeN9 (d + 0) T A (sd1 q) s70 hQ_74 hT_75
    refine w_callV (As := [.ref 1, .int 9]) (rest := []) rfl rfl rfl (Nat.le_of_ble_eq_true rfl) (Nat.le_of_ble_eq_true rfl) (by first | exact Or.inl ⟨rfl, rfl⟩ | exact Or.inr ⟨rfl, rfl⟩) hc_79 ?_
    have hQ_82 : XQ s78 A (sd2 T q) := hQ_80
    have hT_83 : XTo s78 T A := XTo_e (hf_81.1.1 3 (by decide)) hT_75
    have hX_84 : X5 s78 q.n q.c := X5_fr hf_81.1 (by decide) hX_76
    have hF_85 : FG [1, 5, 6, 7, 8, 9, 10, 11, 12] st s78 := FG.trans hF_77 (F1.fg hf_81 (by decide))
    refine w_blk 3 (pc' := 28) (ls' := [some (.ref 1), some (.ref 5), some (.int (nI (T (sd1 q).1))), none]) (sk' := [.int 106, .ref 1]) (st' := s78) (fun _ h => h) ?_
    obtain ⟨s86, hc_87, hQ_88, hf_89⟩ := c_takes (d + 1) T A (sd2 T q) 106 s78 hQ_82 hT_83 (by decide) (by decide)
    refine w_callV (As := [.ref 1, .int 106]) (rest := []) rfl rfl rfl (Nat.le_of_ble_eq_true rfl) (Nat.le_of_ble_eq_true rfl) (by first | exact Or.inl ⟨rfl, rfl⟩ | exact Or.inr ⟨rfl, rfl⟩) hc_87 ?_
    refine w_if_eq rfl (fun h7 => ?_) (fun h7 => ?_)
    · replace h7 := pI_eq0.mp h7
      refine w_blk 2 (pc' := 41) (ls' := [some (.ref 1), some (.ref 5), some (.int (nI (T (sd1 q).1))), none]) (sk' := [.int 107, .ref 1]) (st' := s86) (fun _ h => h) ?_
      have hsame : opt (decide (T (sd2 T q).1 = 106)) (sd2 T q) = sd2 T q := by
        rcases hz2 : (sd2 T q).2 with _ | _
        · exact opt_no (decide_eq_false (fun e => h7 ⟨hz2, e⟩))
        · exact opt_st hz2
      rw [hsame] at hQ_88
      obtain ⟨s90, hc_91, hQ_92, hf_93⟩ := c_takes (d + 1) T A (sd2 T q) 107 s86 hQ_88 (XTo_e (hf_89.1.1 3 (by decide)) hT_83) (by decide) (by decide)
      have hf12 := F1.trans hf_89 hf_93
      refine w_callV (As := [.ref 1, .int 107]) (rest := []) rfl rfl rfl (Nat.le_of_ble_eq_true rfl) (Nat.le_of_ble_eq_true rfl) (by first | exact Or.inl ⟨rfl, rfl⟩ | exact Or.inr ⟨rfl, rfl⟩) hc_91 ?_
      refine w_if_eq rfl (fun h8 => ?_) (fun h8 => ?_)
      · replace h8 := pI_eq0.mp h8
        refine w_blk 1 (pc' := 52) (ls' := [some (.ref 1), some (.ref 5), some (.int (nI (T (sd1 q).1))), none]) (sk' := [.int 0]) (st' := s90) (fun _ h => h) ?_
        have hsd3 : sd3 T q = sd2 T q := by
          rcases hz2 : (sd2 T q).2 with _ | _
          · exact opt_no (decide_eq_false (fun e => e.elim (fun e => h7 ⟨hz2, e⟩) (fun e => h8 ⟨hz2, e⟩)))
          · exact opt_st hz2
        have hsam2 : opt (decide (T (sd2 T q).1 = 107)) (sd2 T q) = sd2 T q := by
          rcases hz2 : (sd2 T q).2 with _ | _
          · exact opt_no (decide_eq_false (fun e => h8 ⟨hz2, e⟩))
          · exact opt_st hz2
        rw [hsam2] at hQ_92
        have hQ_94 : XQ s90 A (sd3 T q) := by rw [show sd3 T q = _ from hsd3]; exact hQ_92
        have hT_95 : XTo s90 T A := XTo_e (hf12.1.1 3 (by decide)) hT_83
        have hX_96 : X5 s90 q.n q.c := X5_fr hf12.1 (by decide) hX_84
        have hF_97 : FG [1, 5, 6, 7, 8, 9, 10, 11, 12] st s90 := FG.trans hF_85 (F1.fg hf12 (by decide))
        have hwm : (sd2 T q).2 = false → 0 = wm (T (sd2 T q).1) := fun hz2 => ((if_neg (fun e => h7 ⟨hz2, e⟩)).trans (if_neg (fun e => h8 ⟨hz2, e⟩))).symm
        refine w_blk 2 (pc' := 54) (ls' := [some (.ref 1), some (.ref 5), some (.int (nI (T (sd1 q).1))), some (.int 0)]) (sk' := [.ref 1]) (st' := s90) (fun _ h => h) ?_
        obtain ⟨s98, hc_99, hQ_100, hf_101⟩ := c_takeS (d + 0) T A (sd3 T q) s90 hQ_94 hT_95
        refine w_callV (As := [.ref 1]) (rest := []) rfl rfl rfl (Nat.le_of_ble_eq_true rfl) (Nat.le_of_ble_eq_true rfl) (by first | exact Or.inl ⟨rfl, rfl⟩ | exact Or.inr ⟨rfl, rfl⟩) hc_99 ?_
        replace hQ_100 : XQ s98 A (sd4 T q) := hQ_100
        have hX_102 : X5 s98 q.n q.c := X5_fr hf_101.1 (by decide) hX_96
        have hF_103 : FG [1, 5, 6, 7, 8, 9, 10, 11, 12] st s98 := FG.trans hF_97 (F1.fg hf_101 (by decide))
        refine w_blk 2 (pc' := 61) (ls' := [some (.ref 1), some (.ref 5), some (.int (nI (T (sd1 q).1))), some (.int 0)]) (sk' := [.int (s98.1 1 5)]) (st' := s98) (fun _ h => h) ?_
        rw [hQ_100.2.1]
        refine w_if_ne rfl (fun h2 => ?_) (fun h2 => ?_)
        · replace h2 := pI_ne.mp h2
          exact w_vret rfl rfl (hq s98 ⟨by rw [itm_pS eT]; exact hQ_100, fun h => absurd h (by rw [itm_pS eT, h2]; decide), hF_103⟩)
        · replace h2 := pI_eq0.mp (Decidable.not_not.mp h2)
          have hz : (sd4 T q).2 = false := Bool.eq_false_iff.mpr h2
          have hf9 := sd4_f hz
          have hwm2 := hwm hf9.2.2.2.2
          obtain ⟨s104, hc_105, hX_106, hf_107, h2_108⟩ := c_addS_5 (d + 1) q.n q.c (T (sd1 q).1) 0 s98 hX_102 hf9.2.1
          refine w_blk 3 (pc' := 67) (ls' := [some (.ref 1), some (.ref 5), some (.int (nI (T (sd1 q).1))), some (.int 0)]) (sk' := [.int 0, .int (nI (T (sd1 q).1)), .ref 5]) (st' := s98) (fun _ h => h) ?_
          refine w_callV (As := [.ref 5, .int (nI (T (sd1 q).1)), .int 0]) (rest := []) rfl rfl rfl (Nat.le_of_ble_eq_true rfl) (Nat.le_of_ble_eq_true rfl) (by first | exact Or.inl ⟨rfl, rfl⟩ | exact Or.inr ⟨rfl, rfl⟩) hc_105 ?_
          obtain ⟨g1, g2⟩ := itm_S eT hz
          have g3 : sdC T q = upd2 (upd2 q.c 3 (q.n 1) (T (sd1 q).1)) 4 (q.n 1) 0 := by unfold sdC; rw [← hwm2]
          exact w_vret rfl rfl (hq s104 ⟨by rw [itm_pS eT]; exact XQ_e (hf_107.1 1 (by decide)) hQ_100, fun _ => by rw [g1, g2, g3]; exact hX_106, FG.trans hF_103 (FG.fr hf_107 h2_108 (by decide) (by decide))⟩)
      · replace h8 := pI_ne.mp h8
        refine w_blk 2 (pc' := 52) (ls' := [some (.ref 1), some (.ref 5), some (.int (nI (T (sd1 q).1))), none]) (sk' := [.int 2]) (st' := s90) (fun _ h => h) ?_
        have hsd3 : sd3 T q = ((sd2 T q).1 + 1, (sd2 T q).2) := opt_go h8.1 (decide_eq_true (Or.inr h8.2))
        rw [opt_go h8.1 (decide_eq_true h8.2)] at hQ_92
        have hQ_109 : XQ s90 A (sd3 T q) := by rw [show sd3 T q = _ from hsd3]; exact hQ_92
        have hT_110 : XTo s90 T A := XTo_e (hf12.1.1 3 (by decide)) hT_83
        have hX_111 : X5 s90 q.n q.c := X5_fr hf12.1 (by decide) hX_84
        have hF_112 : FG [1, 5, 6, 7, 8, 9, 10, 11, 12] st s90 := FG.trans hF_85 (F1.fg hf12 (by decide))
        have hwm : (sd2 T q).2 = false → 2 = wm (T (sd2 T q).1) := fun hz2 => ((if_neg (by rw [h8.2]; decide)).trans (if_pos h8.2)).symm
        refine w_blk 2 (pc' := 54) (ls' := [some (.ref 1), some (.ref 5), some (.int (nI (T (sd1 q).1))), some (.int 2)]) (sk' := [.ref 1]) (st' := s90) (fun _ h => h) ?_
        obtain ⟨s113, hc_114, hQ_115, hf_116⟩ := c_takeS (d + 0) T A (sd3 T q) s90 hQ_109 hT_110
        refine w_callV (As := [.ref 1]) (rest := []) rfl rfl rfl (Nat.le_of_ble_eq_true rfl) (Nat.le_of_ble_eq_true rfl) (by first | exact Or.inl ⟨rfl, rfl⟩ | exact Or.inr ⟨rfl, rfl⟩) hc_114 ?_
        replace hQ_115 : XQ s113 A (sd4 T q) := hQ_115
        have hX_117 : X5 s113 q.n q.c := X5_fr hf_116.1 (by decide) hX_111
        have hF_118 : FG [1, 5, 6, 7, 8, 9, 10, 11, 12] st s113 := FG.trans hF_112 (F1.fg hf_116 (by decide))
        refine w_blk 2 (pc' := 61) (ls' := [some (.ref 1), some (.ref 5), some (.int (nI (T (sd1 q).1))), some (.int 2)]) (sk' := [.int (s113.1 1 5)]) (st' := s113) (fun _ h => h) ?_
        rw [hQ_115.2.1]
        refine w_if_ne rfl (fun h2 => ?_) (fun h2 => ?_)
        · replace h2 := pI_ne.mp h2
          exact w_vret rfl rfl (hq s113 ⟨by rw [itm_pS eT]; exact hQ_115, fun h => absurd h (by rw [itm_pS eT, h2]; decide), hF_118⟩)
        · replace h2 := pI_eq0.mp (Decidable.not_not.mp h2)
          have hz : (sd4 T q).2 = false := Bool.eq_false_iff.mpr h2
          have hf9 := sd4_f hz
          have hwm2 := hwm hf9.2.2.2.2
          obtain ⟨s119, hc_120, hX_121, hf_122, h2_123⟩ := c_addS_5 (d + 1) q.n q.c (T (sd1 q).1) 2 s113 hX_117 hf9.2.1
          refine w_blk 3 (pc' := 67) (ls' := [some (.ref 1), some (.ref 5), some (.int (nI (T (sd1 q).1))), some (.int 2)]) (sk' := [.int 2, .int (nI (T (sd1 q).1)), .ref 5]) (st' := s113) (fun _ h => h) ?_
          refine w_callV (As := [.ref 5, .int (nI (T (sd1 q).1)), .int 2]) (rest := []) rfl rfl rfl (Nat.le_of_ble_eq_true rfl) (Nat.le_of_ble_eq_true rfl) (by first | exact Or.inl ⟨rfl, rfl⟩ | exact Or.inr ⟨rfl, rfl⟩) hc_120 ?_
          obtain ⟨g1, g2⟩ := itm_S eT hz
          have g3 : sdC T q = upd2 (upd2 q.c 3 (q.n 1) (T (sd1 q).1)) 4 (q.n 1) 2 := by unfold sdC; rw [← hwm2]
          exact w_vret rfl rfl (hq s119 ⟨by rw [itm_pS eT]; exact XQ_e (hf_122.1 1 (by decide)) hQ_115, fun _ => by rw [g1, g2, g3]; exact hX_121, FG.trans hF_118 (FG.fr hf_122 h2_123 (by decide) (by decide))⟩)
    · replace h7 := pI_ne.mp h7
      refine w_blk 2 (pc' := 52) (ls' := [some (.ref 1), some (.ref 5), some (.int (nI (T (sd1 q).1))), none]) (sk' := [.int 1]) (st' := s86) (fun _ h => h) ?_
      have hsd3 : sd3 T q = ((sd2 T q).1 + 1, (sd2 T q).2) := opt_go h7.1 (decide_eq_true (Or.inl h7.2))
      rw [opt_go h7.1 (decide_eq_true h7.2)] at hQ_88
      have hQ_124 : XQ s86 A (sd3 T q) := by rw [show sd3 T q = _ from hsd3]; exact hQ_88
      have hT_125 : XTo s86 T A := XTo_e (hf_89.1.1 3 (by decide)) hT_83
      have hX_126 : X5 s86 q.n q.c := X5_fr hf_89.1 (by decide) hX_84
      have hF_127 : FG [1, 5, 6, 7, 8, 9, 10, 11, 12] st s86 := FG.trans hF_85 (F1.fg hf_89 (by decide))
      have hwm : (sd2 T q).2 = false → 1 = wm (T (sd2 T q).1) := fun hz2 => (if_pos h7.2).symm
      refine w_blk 2 (pc' := 54) (ls' := [some (.ref 1), some (.ref 5), some (.int (nI (T (sd1 q).1))), some (.int 1)]) (sk' := [.ref 1]) (st' := s86) (fun _ h => h) ?_
      obtain ⟨s128, hc_129, hQ_130, hf_131⟩ := c_takeS (d + 0) T A (sd3 T q) s86 hQ_124 hT_125
      refine w_callV (As := [.ref 1]) (rest := []) rfl rfl rfl (Nat.le_of_ble_eq_true rfl) (Nat.le_of_ble_eq_true rfl) (by first | exact Or.inl ⟨rfl, rfl⟩ | exact Or.inr ⟨rfl, rfl⟩) hc_129 ?_
      replace hQ_130 : XQ s128 A (sd4 T q) := hQ_130
      have hX_132 : X5 s128 q.n q.c := X5_fr hf_131.1 (by decide) hX_126
      have hF_133 : FG [1, 5, 6, 7, 8, 9, 10, 11, 12] st s128 := FG.trans hF_127 (F1.fg hf_131 (by decide))
      refine w_blk 2 (pc' := 61) (ls' := [some (.ref 1), some (.ref 5), some (.int (nI (T (sd1 q).1))), some (.int 1)]) (sk' := [.int (s128.1 1 5)]) (st' := s128) (fun _ h => h) ?_
      rw [hQ_130.2.1]
      refine w_if_ne rfl (fun h2 => ?_) (fun h2 => ?_)
      · replace h2 := pI_ne.mp h2
        exact w_vret rfl rfl (hq s128 ⟨by rw [itm_pS eT]; exact hQ_130, fun h => absurd h (by rw [itm_pS eT, h2]; decide), hF_133⟩)
      · replace h2 := pI_eq0.mp (Decidable.not_not.mp h2)
        have hz : (sd4 T q).2 = false := Bool.eq_false_iff.mpr h2
        have hf9 := sd4_f hz
        have hwm2 := hwm hf9.2.2.2.2
        obtain ⟨s134, hc_135, hX_136, hf_137, h2_138⟩ := c_addS_5 (d + 1) q.n q.c (T (sd1 q).1) 1 s128 hX_132 hf9.2.1
        refine w_blk 3 (pc' := 67) (ls' := [some (.ref 1), some (.ref 5), some (.int (nI (T (sd1 q).1))), some (.int 1)]) (sk' := [.int 1, .int (nI (T (sd1 q).1)), .ref 5]) (st' := s128) (fun _ h => h) ?_
        refine w_callV (As := [.ref 5, .int (nI (T (sd1 q).1)), .int 1]) (rest := []) rfl rfl rfl (Nat.le_of_ble_eq_true rfl) (Nat.le_of_ble_eq_true rfl) (by first | exact Or.inl ⟨rfl, rfl⟩ | exact Or.inr ⟨rfl, rfl⟩) hc_135 ?_
        obtain ⟨g1, g2⟩ := itm_S eT hz
        have g3 : sdC T q = upd2 (upd2 q.c 3 (q.n 1) (T (sd1 q).1)) 4 (q.n 1) 1 := by unfold sdC; rw [← hwm2]
        exact w_vret rfl rfl (hq s134 ⟨by rw [itm_pS eT]; exact XQ_e (hf_137.1 1 (by decide)) hQ_130, fun _ => by rw [g1, g2, g3]; exact hX_136, FG.trans hF_133 (FG.fr hf_137 h2_138 (by decide) (by decide))⟩)
set_option maxHeartbeats 4000000 in
set_option maxRecDepth 20000 in
/-- readY -/
theorem c_readY_5 (d : Nat) (T : Nat → Nat) (A : Nat) (q : RQ) (st : mSt) (hQ : XQ st A q.p) (hT : XTo st T A) (hqf : q.p.2 = false) (eT : T q.p.1 = 105) (hX : X5 st q.n q.c) (hB : CB q.n q.c) : ∃ (s : mSt), mMC mT (d + 4) 65 [.ref 1, .ref 5] st (none) s ∧ XQ s A (itm T q).p ∧ ((itm T q).p.2 = false → X5 s (itm T q).n (itm T q).c) ∧ FG [1, 5, 6, 7, 8, 9, 10, 11, 12] st s := by
  suffices H : ∀ Q : Option Value → mSt → Prop, (∀ (s : mSt), (XQ s A (itm T q).p ∧ ((itm T q).p.2 = false → X5 s (itm T q).n (itm T q).c) ∧ FG [1, 5, 6, 7, 8, 9, 10, 11, 12] st s) → Q (none) s) → mW (mMC mT (d + 3)) (0, fun _ => 0) (mAtL P_X7_readYard) none Q 0 [some (.ref 1), some (.ref 5), none, none] [] st by
    obtain ⟨_, _, ⟨s, rfl, rfl, hp⟩, hw⟩ := mW_ex (H (fun vv tt => ∃ (s : mSt),  vv = none ∧ s = tt ∧ XQ s A (itm T q).p ∧ ((itm T q).p.2 = false → X5 s (itm T q).n (itm T q).c) ∧ FG [1, 5, 6, 7, 8, 9, 10, 11, 12] st s) (fun s hp => ⟨s, rfl, rfl, hp⟩))
    exact ⟨s, mI_X7_readYard (d := d + 3) (Nat.le_of_ble_eq_true rfl) hw, hp⟩
  intro Q hq
  obtain ⟨hb0, hb1, hb2, -⟩ := id hB
  have hA := XQ_ne hQ hT (by rw [eT]; decide)
  refine w_blk 3 (pc' := 5) (ls' := [some (.ref 1), some (.ref 5), none, none]) (sk' := [.int (st.1 5 2), .ref 1]) (st' := st) (fun _ h => h) ?_
  rw [hX.2.2.1]
  refine w_blk 1 (pc' := 7) (ls' := [some (.ref 1), some (.ref 5), none, none]) (sk' := [.int 8, .int (nI (q.n 2)), .ref 1]) (st' := st) (fun _ h => h) ?_
  refine w_cmp_ge rfl (fun h1 => ?_) (fun h1 => ?_)
  · replace h1 : 8 ≤ q.n 2 := (nI_leI (a := 8) (b := (q.n 2)) (by omega) (by omega)).mp h1
    refine w_blk 1 (pc' := 15) (ls' := [some (.ref 1), some (.ref 5), none, none]) (sk' := [.int 0, .ref 1]) (st' := st) (fun _ h => h) ?_
    have hok : decide (q.n 2 < 8) = false := decide_eq_false (by omega)
    obtain ⟨s1, hc_2, hQ_3, hf_4⟩ := c_takeWord (d + 2) A q.p (decide (q.n 2 < 8)) 0 st hQ hqf hA (by rw [hok]; rfl)
    refine w_callV (As := [.ref 1, .int 0]) (rest := []) rfl rfl rfl (Nat.le_of_ble_eq_true rfl) (Nat.le_of_ble_eq_true rfl) (by first | exact Or.inl ⟨rfl, rfl⟩ | exact Or.inr ⟨rfl, rfl⟩) hc_2 ?_
    have hQ_5 : XQ s1 A (yd1 q) := hQ_3
    have hT_6 : XTo s1 T A := XTo_e (hf_4.1.1 3 (by decide)) hT
    have hX_7 : X5 s1 q.n q.c := X5_fr hf_4.1 (by decide) hX
    have hF_8 : FG [1, 5, 6, 7, 8, 9, 10, 11, 12] st s1 := FG.trans (FG.rf : FG [1, 5, 6, 7, 8, 9, 10, 11, 12] st st) (F1.fg hf_4 (by decide))
    refine w_blk 2 (pc' := 21) (ls' := [some (.ref 1), some (.ref 5), none, none]) (sk' := [.int 99, .ref 1]) (st' := s1) (fun _ h => h) ?_
    obtain ⟨s9, hc_10, hQ_11, hf_12⟩ := c_takeN99 (d + 0) T A (yd1 q) s1 hQ_5 hT_6
    refine w_callV (As := [.ref 1, .int 99]) (rest := []) rfl rfl rfl (Nat.le_of_ble_eq_true rfl) (Nat.le_of_ble_eq_true rfl) (by first | exact Or.inl ⟨rfl, rfl⟩ | exact Or.inr ⟨rfl, rfl⟩) hc_10 ?_
    have hQ_13 : XQ s9 A (yd2 T q) := hQ_11
    have hT_14 : XTo s9 T A := XTo_e (hf_12.1.1 3 (by decide)) hT_6
    have hX_15 : X5 s9 q.n q.c := X5_fr hf_12.1 (by decide) hX_7
    have hF_16 : FG [1, 5, 6, 7, 8, 9, 10, 11, 12] st s9 := FG.trans hF_8 (F1.fg hf_12 (by decide))
    refine w_blk 3 (pc' := 28) (ls' := [some (.ref 1), some (.ref 5), some (.int (nI (T (yd1 q).1))), none]) (sk' := [.int 9, .ref 1]) (st' := s9) (fun _ h => h) ?_
    obtain ⟨s17, hc_18, hQ_19, hf_20⟩ := c_takeN9 (d + 0) T A (yd2 T q) s9 hQ_13 hT_14
    refine w_callV (As := [.ref 1, .int 9]) (rest := []) rfl rfl rfl (Nat.le_of_ble_eq_true rfl) (Nat.le_of_ble_eq_true rfl) (by first | exact Or.inl ⟨rfl, rfl⟩ | exact Or.inr ⟨rfl, rfl⟩) hc_18 ?_
    have hQ_21 : XQ s17 A (yd3 T q) := hQ_19
    have hT_22 : XTo s17 T A := XTo_e (hf_20.1.1 3 (by decide)) hT_14
    have hX_23 : X5 s17 q.n q.c := X5_fr hf_20.1 (by decide) hX_15
    have hF_24 : FG [1, 5, 6, 7, 8, 9, 10, 11, 12] st s17 := FG.trans hF_16 (F1.fg hf_20 (by decide))
    refine w_blk 2 (pc' := 33) (ls' := [some (.ref 1), some (.ref 5), some (.int (nI (T (yd1 q).1))), some (.int (nI (T (yd2 T q).1)))]) (sk' := [.ref 1]) (st' := s17) (fun _ h => h) ?_
    obtain ⟨s25, hc_26, hQ_27, hf_28⟩ := c_takeS (d + 0) T A (yd3 T q) s17 hQ_21 hT_22
    refine w_callV (As := [.ref 1]) (rest := []) rfl rfl rfl (Nat.le_of_ble_eq_true rfl) (Nat.le_of_ble_eq_true rfl) (by first | exact Or.inl ⟨rfl, rfl⟩ | exact Or.inr ⟨rfl, rfl⟩) hc_26 ?_
    have hQ_29 : XQ s25 A (yd4 T q) := hQ_27
    have hT_30 : XTo s25 T A := XTo_e (hf_28.1.1 3 (by decide)) hT_22
    have hX_31 : X5 s25 q.n q.c := X5_fr hf_28.1 (by decide) hX_23
    have hF_32 : FG [1, 5, 6, 7, 8, 9, 10, 11, 12] st s25 := FG.trans hF_24 (F1.fg hf_28 (by decide))
    refine w_blk 2 (pc' := 40) (ls' := [some (.ref 1), some (.ref 5), some (.int (nI (T (yd1 q).1))), some (.int (nI (T (yd2 T q).1)))]) (sk' := [.int (s25.1 1 5)]) (st' := s25) (fun _ h => h) ?_
    rw [hQ_29.2.1]
    refine w_if_ne rfl (fun h2 => ?_) (fun h2 => ?_)
    · replace h2 := pI_ne.mp h2
      exact w_vret rfl rfl (hq s25 ⟨by rw [itm_pY eT]; exact hQ_29, fun h => absurd h (by rw [itm_pY eT, h2]; decide), hF_32⟩)
    · replace h2 := pI_eq0.mp (Decidable.not_not.mp h2)
      have hz : (yd4 T q).2 = false := Bool.eq_false_iff.mpr h2
      have hf9 := yd4_f hz
      obtain ⟨s33, hc_34, hX_35, hf_36, h2_37⟩ := c_addY_5 (d + 1) q.n q.c (T (yd1 q).1) (T (yd2 T q).1) s25 hX_31 hf9.2.1
      refine w_blk 3 (pc' := 46) (ls' := [some (.ref 1), some (.ref 5), some (.int (nI (T (yd1 q).1))), some (.int (nI (T (yd2 T q).1)))]) (sk' := [.int (nI (T (yd2 T q).1)), .int (nI (T (yd1 q).1)), .ref 5]) (st' := s25) (fun _ h => h) ?_
      refine w_callV (As := [.ref 5, .int (nI (T (yd1 q).1)), .int (nI (T (yd2 T q).1))]) (rest := []) rfl rfl rfl (Nat.le_of_ble_eq_true rfl) (Nat.le_of_ble_eq_true rfl) (by first | exact Or.inl ⟨rfl, rfl⟩ | exact Or.inr ⟨rfl, rfl⟩) hc_34 ?_
      obtain ⟨g1, g2⟩ := itm_Y eT hz
      exact w_vret rfl rfl (hq s33 ⟨by rw [itm_pY eT]; exact XQ_e (hf_36.1 1 (by decide)) hQ_29, fun _ => by rw [g1, g2]; exact hX_35, FG.trans hF_32 (FG.fr hf_36 h2_37 (by decide) (by decide))⟩)
  · replace h1 : ¬ (8 ≤ q.n 2) := fun hh => h1 ((nI_leI (a := 8) (b := (q.n 2)) (by omega) (by omega)).mpr hh)
    refine w_blk 2 (pc' := 15) (ls' := [some (.ref 1), some (.ref 5), none, none]) (sk' := [.int 1, .ref 1]) (st' := st) (fun _ h => h) ?_
    have hok : decide (q.n 2 < 8) = true := decide_eq_true (by omega)
    obtain ⟨s38, hc_39, hQ_40, hf_41⟩ := c_takeWord (d + 2) A q.p (decide (q.n 2 < 8)) 1 st hQ hqf hA (by rw [hok]; rfl)
    refine w_callV (As := [.ref 1, .int 1]) (rest := []) rfl rfl rfl (Nat.le_of_ble_eq_true rfl) (Nat.le_of_ble_eq_true rfl) (by first | exact Or.inl ⟨rfl, rfl⟩ | exact Or.inr ⟨rfl, rfl⟩) hc_39 ?_
    have hQ_42 : XQ s38 A (yd1 q) := hQ_40
    have hT_43 : XTo s38 T A := XTo_e (hf_41.1.1 3 (by decide)) hT
    have hX_44 : X5 s38 q.n q.c := X5_fr hf_41.1 (by decide) hX
    have hF_45 : FG [1, 5, 6, 7, 8, 9, 10, 11, 12] st s38 := FG.trans (FG.rf : FG [1, 5, 6, 7, 8, 9, 10, 11, 12] st st) (F1.fg hf_41 (by decide))
    refine w_blk 2 (pc' := 21) (ls' := [some (.ref 1), some (.ref 5), none, none]) (sk' := [.int 99, .ref 1]) (st' := s38) (fun _ h => h) ?_
    obtain ⟨s46, hc_47, hQ_48, hf_49⟩ := c_takeN99 (d + 0) T A (yd1 q) s38 hQ_42 hT_43
    refine w_callV (As := [.ref 1, .int 99]) (rest := []) rfl rfl rfl (Nat.le_of_ble_eq_true rfl) (Nat.le_of_ble_eq_true rfl) (by first | exact Or.inl ⟨rfl, rfl⟩ | exact Or.inr ⟨rfl, rfl⟩) hc_47 ?_
    have hQ_50 : XQ s46 A (yd2 T q) := hQ_48
    have hT_51 : XTo s46 T A := XTo_e (hf_49.1.1 3 (by decide)) hT_43
    have hX_52 : X5 s46 q.n q.c := X5_fr hf_49.1 (by decide) hX_44
    have hF_53 : FG [1, 5, 6, 7, 8, 9, 10, 11, 12] st s46 := FG.trans hF_45 (F1.fg hf_49 (by decide))
    refine w_blk 3 (pc' := 28) (ls' := [some (.ref 1), some (.ref 5), some (.int (nI (T (yd1 q).1))), none]) (sk' := [.int 9, .ref 1]) (st' := s46) (fun _ h => h) ?_
    obtain ⟨s54, hc_55, hQ_56, hf_57⟩ := c_takeN9 (d + 0) T A (yd2 T q) s46 hQ_50 hT_51
    refine w_callV (As := [.ref 1, .int 9]) (rest := []) rfl rfl rfl (Nat.le_of_ble_eq_true rfl) (Nat.le_of_ble_eq_true rfl) (by first | exact Or.inl ⟨rfl, rfl⟩ | exact Or.inr ⟨rfl, rfl⟩) hc_55 ?_
    have hQ_58 : XQ s54 A (yd3 T q) := hQ_56
    have hT_59 : XTo s54 T A := XTo_e (hf_57.1.1 3 (by decide)) hT_51
    have hX_60 : X5 s54 q.n q.c := X5_fr hf_57.1 (by decide) hX_52
    have hF_61 : FG [1, 5, 6, 7, 8, 9, 10, 11, 12] st s54 := FG.trans hF_53 (F1.fg hf_57 (by decide))
    refine w_blk 2 (pc' := 33) (ls' := [some (.ref 1), some (.ref 5), some (.int (nI (T (yd1 q).1))), some (.int (nI (T (yd2 T q).1)))]) (sk' := [.ref 1]) (st' := s54) (fun _ h => h) ?_
    obtain ⟨s62, hc_63, hQ_64, hf_65⟩ := c_takeS (d + 0) T A (yd3 T q) s54 hQ_58 hT_59
    refine w_callV (As := [.ref 1]) (rest := []) rfl rfl rfl (Nat.le_of_ble_eq_true rfl) (Nat.le_of_ble_eq_true rfl) (by first | exact Or.inl ⟨rfl, rfl⟩ | exact Or.inr ⟨rfl, rfl⟩) hc_63 ?_
    have hQ_66 : XQ s62 A (yd4 T q) := hQ_64
    have hT_67 : XTo s62 T A := XTo_e (hf_65.1.1 3 (by decide)) hT_59
    have hX_68 : X5 s62 q.n q.c := X5_fr hf_65.1 (by decide) hX_60
    have hF_69 : FG [1, 5, 6, 7, 8, 9, 10, 11, 12] st s62 := FG.trans hF_61 (F1.fg hf_65 (by decide))
    refine w_blk 2 (pc' := 40) (ls' := [some (.ref 1), some (.ref 5), some (.int (nI (T (yd1 q).1))), some (.int (nI (T (yd2 T q).1)))]) (sk' := [.int (s62.1 1 5)]) (st' := s62) (fun _ h => h) ?_
    rw [hQ_66.2.1]
    refine w_if_ne rfl (fun h2 => ?_) (fun h2 => ?_)
    · replace h2 := pI_ne.mp h2
      exact w_vret rfl rfl (hq s62 ⟨by rw [itm_pY eT]; exact hQ_66, fun h => absurd h (by rw [itm_pY eT, h2]; decide), hF_69⟩)
    · replace h2 := pI_eq0.mp (Decidable.not_not.mp h2)
      have hz : (yd4 T q).2 = false := Bool.eq_false_iff.mpr h2
      have hf9 := yd4_f hz
      obtain ⟨s70, hc_71, hX_72, hf_73, h2_74⟩ := c_addY_5 (d + 1) q.n q.c (T (yd1 q).1) (T (yd2 T q).1) s62 hX_68 hf9.2.1
      refine w_blk 3 (pc' := 46) (ls' := [some (.ref 1), some (.ref 5), some (.int (nI (T (yd1 q).1))), some (.int (nI (T (yd2 T q).1)))]) (sk' := [.int (nI (T (yd2 T q).1)), .int (nI (T (yd1 q).1)), .ref 5]) (st' := s62) (fun _ h => h) ?_
      refine w_callV (As := [.ref 5, .int (nI (T (yd1 q).1)), .int (nI (T (yd2 T q).1))]) (rest := []) rfl rfl rfl (Nat.le_of_ble_eq_true rfl) (Nat.le_of_ble_eq_true rfl) (by first | exact Or.inl ⟨rfl, rfl⟩ | exact Or.inr ⟨rfl, rfl⟩) hc_71 ?_
      obtain ⟨g1, g2⟩ := itm_Y eT hz
      exact w_vret rfl rfl (hq s70 ⟨by rw [itm_pY eT]; exact XQ_e (hf_73.1 1 (by decide)) hQ_66, fun _ => by rw [g1, g2]; exact hX_72, FG.trans hF_69 (FG.fr hf_73 h2_74 (by decide) (by decide))⟩)
set_option maxRecDepth 20000 in
/-- readItem -/
theorem c_readItem_5 (d : Nat) (T : Nat → Nat) (A : Nat) (q : RQ) (st : mSt) (hQ : XQ st A q.p) (hT : XTo st T A) (hqf : q.p.2 = false) (hX : X5 st q.n q.c) (hB : CB q.n q.c) : ∃ (s : mSt), mMC mT (d + 5) 62 [.ref 1, .ref 5] st (none) s ∧ XQ s A (itm T q).p ∧ ((itm T q).p.2 = false → X5 s (itm T q).n (itm T q).c) ∧ FG [1, 5, 6, 7, 8, 9, 10, 11, 12] st s := by
  suffices H : ∀ Q : Option Value → mSt → Prop, (∀ (s : mSt), (XQ s A (itm T q).p ∧ ((itm T q).p.2 = false → X5 s (itm T q).n (itm T q).c) ∧ FG [1, 5, 6, 7, 8, 9, 10, 11, 12] st s) → Q (none) s) → mW (mMC mT (d + 4)) (0, fun _ => 0) (mAtL P_X7_readItem) none Q 0 [some (.ref 1), some (.ref 5)] [] st by
    obtain ⟨_, _, ⟨s, rfl, rfl, hp⟩, hw⟩ := mW_ex (H (fun vv tt => ∃ (s : mSt),  vv = none ∧ s = tt ∧ XQ s A (itm T q).p ∧ ((itm T q).p.2 = false → X5 s (itm T q).n (itm T q).c) ∧ FG [1, 5, 6, 7, 8, 9, 10, 11, 12] st s) (fun s hp => ⟨s, rfl, rfl, hp⟩))
    exact ⟨s, mI_X7_readItem (d := d + 4) (Nat.le_of_ble_eq_true rfl) hw, hp⟩
  intro Q hq
  have hQk := XQ_tok hQ hT
  have hT7 := hT.2.2.1 q.p.1
  have hA3 := hT.1
  have hqA := hQ.2.2
  refine w_blk 4 (pc' := 8) (ls' := [some (.ref 1), some (.ref 5)]) (sk' := [.int (st.1 1 4), .ref 3]) (st' := st) (fun _ h => h) ?_
  rw [hQ.1]
  refine w_callS (As := [.ref 3, .int (nI q.p.1)]) (rest := []) rfl rfl rfl (Nat.le_of_ble_eq_true rfl) (Nat.le_of_ble_eq_true rfl) (c_cellK (d + 3) 3 301 q.p.1 st (by omega) (by decide) rfl) ?_
  rw [hQk]
  by_cases eD : T q.p.1 = 103
  · rw [eD]
    refine w_tblIn (o := 25) (t := 36) rfl (by decide) (by decide) rfl rfl ?_
    obtain ⟨s1, hc, hp1⟩ := c_readD_5 (d + 0) T A q st hQ hT hqf eD hX hB
    refine w_blk 2 (pc' := 38) (ls' := [some (.ref 1), some (.ref 5)]) (sk' := [.ref 5, .ref 1]) (st' := st) (fun _ h => h) ?_
    refine w_callV (As := [.ref 1, .ref 5]) (rest := []) rfl rfl rfl (Nat.le_of_ble_eq_true rfl) (Nat.le_of_ble_eq_true rfl) (by first | exact Or.inl ⟨rfl, rfl⟩ | exact Or.inr ⟨rfl, rfl⟩) hc ?_
    refine w_blk 1 (pc' := 65) (ls' := [some (.ref 1), some (.ref 5)]) (sk' := []) (st' := s1) (fun _ h => h) ?_
    exact w_vret rfl rfl (hq s1 hp1)
  · by_cases eS : T q.p.1 = 104
    · rw [eS]
      refine w_tblIn (o := 33) (t := 44) rfl (by decide) (by decide) rfl rfl ?_
      obtain ⟨s1, hc, hp1⟩ := c_readS_5 (d + 0) T A q st hQ hT hqf eS hX hB
      refine w_blk 2 (pc' := 46) (ls' := [some (.ref 1), some (.ref 5)]) (sk' := [.ref 5, .ref 1]) (st' := st) (fun _ h => h) ?_
      refine w_callV (As := [.ref 1, .ref 5]) (rest := []) rfl rfl rfl (Nat.le_of_ble_eq_true rfl) (Nat.le_of_ble_eq_true rfl) (by first | exact Or.inl ⟨rfl, rfl⟩ | exact Or.inr ⟨rfl, rfl⟩) hc ?_
      refine w_blk 1 (pc' := 65) (ls' := [some (.ref 1), some (.ref 5)]) (sk' := []) (st' := s1) (fun _ h => h) ?_
      exact w_vret rfl rfl (hq s1 hp1)
    · by_cases eY : T q.p.1 = 105
      · rw [eY]
        refine w_tblIn (o := 41) (t := 52) rfl (by decide) (by decide) rfl rfl ?_
        obtain ⟨s1, hc, hp1⟩ := c_readY_5 (d + 0) T A q st hQ hT hqf eY hX hB
        refine w_blk 2 (pc' := 54) (ls' := [some (.ref 1), some (.ref 5)]) (sk' := [.ref 5, .ref 1]) (st' := st) (fun _ h => h) ?_
        refine w_callV (As := [.ref 1, .ref 5]) (rest := []) rfl rfl rfl (Nat.le_of_ble_eq_true rfl) (Nat.le_of_ble_eq_true rfl) (by first | exact Or.inl ⟨rfl, rfl⟩ | exact Or.inr ⟨rfl, rfl⟩) hc ?_
        refine w_blk 1 (pc' := 65) (ls' := [some (.ref 1), some (.ref 5)]) (sk' := []) (st' := s1) (fun _ h => h) ?_
        exact w_vret rfl rfl (hq s1 hp1)
      · refine w_tblOut (t := 60) rfl (by rw [nI_toInt (show T q.p.1 < 2 ^ 31 by omega)]; omega) rfl ?_
        refine w_blk 2 (pc' := 62) (ls' := [some (.ref 1), some (.ref 5)]) (sk' := [.int 1, .ref 1]) (st' := st) (fun _ h => h) ?_
        refine w_putZ rfl rfl rfl (Or.inr rfl) ?_
        have hit := itm_pN (T := T) (q := q) ⟨eD, eS, eY⟩
        exact w_vret rfl rfl (hq ((mU st.1 1 5 1), st.2) ⟨by rw [hit]; exact XQ_no hQ, fun h => absurd h (by rw [hit]; exact fun e => Bool.noConfusion e), (F1.w F1.rf (by decide)).fg (by decide)⟩)
set_option maxRecDepth 20000 in
/-- empty() -/
theorem c_empty_5 (d : Nat) (st : mSt) : mMC mT (d + 1) 19 [.ref 5] st (none) ((mU (mU (mU st.1 5 0 0) 5 1 0) 5 2 0), st.2) := by
  refine mI_X1_empty (d := d + 0) (Nat.le_of_ble_eq_true rfl) (fun Q hq => ?_)
  show mW (mMC mT (d + 0)) (0, fun _ => 0) (mAtL P_X1_empty) none Q 0 [some (.ref 5)] [] st
  refine w_blk 9 (pc' := 15) (ls' := [some (.ref 5)]) (sk' := []) (st' := ((mU (mU (mU st.1 5 0 0) 5 1 0) 5 2 0), st.2)) (fun _ h => h) ?_
  exact w_vret rfl rfl hq
set_option maxRecDepth 20000 in
/-- readInto(crew) -/
theorem c_readInto_5 (d : Nat) (L : Nat) (b : Nat → Nat) (st : mSt) (hP : XS st L b) (hb : ∀ j, j < L → b j < 256) (hL : L ≤ 300) : ∃ (q : RQ) (s : mSt), mMC mT (d + 9) 61 [.ref 1, .ref 5] st (some (.int (rI b L q))) s ∧ RDR (TT b L) q ∧ (q.p.2 = false → X5 s q.n q.c) ∧ FG [1, 3, 4, 5, 6, 7, 8, 9, 10, 11, 12] st s := by
  suffices H : ∀ Q : Option Value → mSt → Prop, (∀ (q : RQ) (s : mSt), (RDR (TT b L) q ∧ (q.p.2 = false → X5 s q.n q.c) ∧ FG [1, 3, 4, 5, 6, 7, 8, 9, 10, 11, 12] st s) → Q (some (.int (rI b L q))) s) → mW (mMC mT (d + 8)) (0, fun _ => 0) (mAtL P_X7_readInto) (some .int) Q 0 [some (.ref 1), some (.ref 5), none] [] st by
    obtain ⟨_, _, ⟨q, s, rfl, rfl, hp⟩, hw⟩ := mW_ex (H (fun vv tt => ∃ (q : RQ) (s : mSt),  vv = some (.int (rI b L q)) ∧ s = tt ∧ RDR (TT b L) q ∧ (q.p.2 = false → X5 s q.n q.c) ∧ FG [1, 3, 4, 5, 6, 7, 8, 9, 10, 11, 12] st s) (fun q s hp => ⟨q, s, rfl, rfl, hp⟩))
    exact ⟨q, s, mI_X7_readInto (d := d + 8) (Nat.le_of_ble_eq_true rfl) hw, hp⟩
  intro Q hq
  obtain ⟨A, s1, hc1, hA3, hTA, htk, hf1, h21⟩ := c_cut (d + 0) L b st hP hb hL
  refine w_blk 1 (pc' := 1) (ls' := [some (.ref 1), some (.ref 5), none]) (sk' := [.ref 1]) (st' := st) (fun _ h => h) ?_
  refine w_callV (As := [.ref 1]) (rest := []) rfl rfl rfl (Nat.le_of_ble_eq_true rfl) (Nat.le_of_ble_eq_true rfl) (by first | exact Or.inl ⟨rfl, rfl⟩ | exact Or.inr ⟨rfl, rfl⟩) hc1 ?_
  refine w_blk 1 (pc' := 5) (ls' := [some (.ref 1), some (.ref 5), none]) (sk' := [.ref 5]) (st' := s1) (fun _ h => h) ?_
  refine w_callV (As := [.ref 5]) (rest := []) rfl rfl rfl (Nat.le_of_ble_eq_true rfl) (Nat.le_of_ble_eq_true rfl) (by first | exact Or.inl ⟨rfl, rfl⟩ | exact Or.inr ⟨rfl, rfl⟩) (c_empty_5 (d + 7) s1) ?_
  refine w_blk 5 (pc' := 15) (ls' := [some (.ref 1), some (.ref 5), none]) (sk' := [.int 0, .ref 1]) (st' := ((mU (mU (mU (mU s1.1 5 0 0) 5 1 0) 5 2 0) 1 4 0), s1.2)) (fun _ h => h) ?_
  refine w_putZ rfl rfl rfl (Or.inl rfl) ?_
  refine w_blk 2 (pc' := 20) (ls' := [some (.ref 1), some (.ref 5), some (.int 0)]) (sk' := []) (st' := ((mU (mU (mU (mU (mU s1.1 5 0 0) 5 1 0) 5 2 0) 1 4 0) 1 5 0), s1.2)) (fun _ h => h) ?_
  have keyE : ∀ (q : RQ) (m : Nat) (s0 : mSt), RDR (TT b L) q → XQ s0 A q.p → (∀ k, k ≤ A → s0.1 4 k = nI (ps b L k)) → (q.p.2 = false → X5 s0 q.n q.c) → FG [1, 3, 4, 5, 6, 7, 8, 9, 10, 11, 12] st s0 → mW (mMC mT (d + 8)) (0, fun _ => 0) (mAtL P_X7_readInto) (some .int) Q 61 [some (.ref 1), some (.ref 5), some (.int (nI m))] [] s0 := by
    intro q m s0 hrd hQ hst hX hf
    have hqA := hQ.2.2
    have hsq := hst q.p.1 hqA
    have hqq := hq q s0
    by_cases hf2 : q.p.2 = true
    · rw [show rI b L q = nI (ps b L q.p.1) from if_pos hf2] at hqq
      refine w_blk 2 (pc' := 65) (ls' := [some (.ref 1), some (.ref 5), some (.int (nI m))]) (sk' := [.int (s0.1 1 5)]) (st' := s0) (fun _ h => h) ?_
      rw [hQ.2.1.trans (pI_t hf2)]
      refine w_if_eq rfl (fun hno => absurd hno (by decide)) (fun _ => ?_)
      refine w_blk 4 (pc' := 76) (ls' := [some (.ref 1), some (.ref 5), some (.int (nI m))]) (sk' := [.int (s0.1 1 4), .ref 4]) (st' := s0) (fun _ h => h) ?_
      rw [hQ.1]
      refine w_callS (As := [.ref 4, .int (nI q.p.1)]) (rest := []) rfl rfl rfl (Nat.le_of_ble_eq_true rfl) (Nat.le_of_ble_eq_true rfl) (c_cellK (d + 7) 4 301 q.p.1 s0 (by omega) (by decide) rfl) ?_
      rw [hsq]
      refine w_blk 1 (pc' := 83) (ls' := [some (.ref 1), some (.ref 5), some (.int (nI m))]) (sk' := [.int (nI (ps b L q.p.1))]) (st' := s0) (fun _ h => h) ?_
      exact w_iret rfl rfl rfl (hqq ⟨hrd, hX, hf⟩)
    · rw [show rI b L q = -1 from if_neg hf2] at hqq
      refine w_blk 2 (pc' := 65) (ls' := [some (.ref 1), some (.ref 5), some (.int (nI m))]) (sk' := [.int (s0.1 1 5)]) (st' := s0) (fun _ h => h) ?_
      rw [hQ.2.1.trans (pI_f hf2)]
      refine w_if_eq rfl (fun _ => ?_) (fun hno => absurd rfl hno)
      refine w_blk 1 (pc' := 83) (ls' := [some (.ref 1), some (.ref 5), some (.int (nI m))]) (sk' := [.int (-1)]) (st' := s0) (fun _ h => h) ?_
      exact w_iret rfl rfl rfl (hqq ⟨hrd, hX, hf⟩)
  have hTT : XTo ((mU (mU (mU (mU (mU s1.1 5 0 0) 5 1 0) 5 2 0) 1 4 0) 1 5 0), s1.2) (TT b L) A := ⟨hA3, hTA, fun k => (TT_r b L k).1, fun k hk => (htk k hk).1⟩
  have hF2 : FG [1, 3, 4, 5, 6, 7, 8, 9, 10, 11, 12] st ((mU (mU (mU (mU (mU s1.1 5 0 0) 5 1 0) 5 2 0) 1 4 0) 1 5 0), s1.2) := by
    refine ⟨?_, fun j hj => ?_, h21⟩
    · exact Fr.trans (Fr.mono hf1 (by decide)) (Fr.trans (Fr.trans (Fr.trans (Fr.trans (Fr.mU (by decide)) (Fr.mU (by decide))) (Fr.mU (by decide))) (Fr.mU (by decide))) (Fr.mU (by decide)))
    · have h9 : Fk 1 [4, 5] s1 ((mU (mU (mU (mU (mU s1.1 5 0 0) 5 1 0) 5 2 0) 1 4 0) 1 5 0), s1.2) := Fk.trans (Fk.trans (Fk.trans (Fk.trans (Fk.wn (by decide)) (Fk.wn (by decide))) (Fk.wn (by decide))) (Fk.wr (by decide))) (Fk.wr (by decide))
      exact (h9 j hj).trans (by rw [hf1.1 1 (by decide)])
  suffices key : ∀ (f m : Nat) (s0 : mSt), m + f = 301 → (∀ j, j < m → ¬ stopQ (TT b L) (rd (TT b L) j)) → XQ s0 A (rd (TT b L) m).p → XTo s0 (TT b L) A → (∀ k, k ≤ A → s0.1 4 k = nI (ps b L k)) → ((rd (TT b L) m).p.2 = false → X5 s0 (rd (TT b L) m).n (rd (TT b L) m).c) → FG [1, 3, 4, 5, 6, 7, 8, 9, 10, 11, 12] st s0 → mW (mMC mT (d + 8)) (0, fun _ => 0) (mAtL P_X7_readInto) (some .int) Q 20 [some (.ref 1), some (.ref 5), some (.int (nI m))] [] s0 from key 301 0 ((mU (mU (mU (mU (mU s1.1 5 0 0) 5 1 0) 5 2 0) 1 4 0) 1 5 0), s1.2) (by omega) (fun j hj => absurd hj (Nat.not_lt_zero _)) ⟨rfl, rfl, Nat.zero_le _⟩ hTT (fun k hk => (htk k hk).2) (fun _ => ⟨rfl, rfl, rfl, fun _ h => absurd h (Nat.not_lt_zero _), fun _ h => absurd h (Nat.not_lt_zero _), fun _ h => absurd h (Nat.not_lt_zero _)⟩) hF2
  intro f
  induction f with
  | zero =>
    intro m s0 hm hns hQ hTT hst hX hf
    have hrm := rd_m (TT b L) m hns
    have hQk := XQ_tok hQ hTT
    have hT7 := hTT.2.2.1 (rd (TT b L) m).p.1
    have hqA := hQ.2.2
    have hpt : TT b L (rd (TT b L) m).p.1 ≠ 100 → (rd (TT b L) m).p.1 < L := fun h => TT_k h
    by_cases hs : stopQ (TT b L) (rd (TT b L) m)
    · refine w_blk 2 (pc' := 24) (ls' := [some (.ref 1), some (.ref 5), some (.int (nI m))]) (sk' := [.int 300, .int (nI m)]) (st' := s0) (fun _ h => h) ?_
      refine w_cmp_ge rfl (fun h1 => ?_) (fun h1 => ?_)
      · replace h1 : 300 ≤ m := (nI_leI (a := 300) (b := m) (by omega) (by omega)).mp h1
        exact keyE _ m s0 ⟨m, rfl, hs⟩ hQ hst hX hf
      · replace h1 : ¬ (300 ≤ m) := fun hh => h1 ((nI_leI (a := 300) (b := m) (by omega) (by omega)).mpr hh)
        by_cases hf2 : (rd (TT b L) m).p.2 = true
        · refine w_blk 2 (pc' := 31) (ls' := [some (.ref 1), some (.ref 5), some (.int (nI m))]) (sk' := [.int (s0.1 1 5)]) (st' := s0) (fun _ h => h) ?_
          rw [hQ.2.1.trans (pI_t hf2)]
          refine w_if_ne rfl (fun _ => ?_) (fun hno => absurd (by decide) hno)
          exact keyE _ m s0 ⟨m, rfl, hs⟩ hQ hst hX hf
        · refine w_blk 2 (pc' := 31) (ls' := [some (.ref 1), some (.ref 5), some (.int (nI m))]) (sk' := [.int (s0.1 1 5)]) (st' := s0) (fun _ h => h) ?_
          rw [hQ.2.1.trans (pI_f hf2)]
          refine w_if_ne rfl (fun hno => absurd hno (fun h => h rfl)) (fun _ => ?_)
          refine w_blk 4 (pc' := 42) (ls' := [some (.ref 1), some (.ref 5), some (.int (nI m))]) (sk' := [.int (s0.1 1 4), .ref 3]) (st' := s0) (fun _ h => h) ?_
          rw [hQ.1]
          refine w_callS (As := [.ref 3, .int (nI (rd (TT b L) m).p.1)]) (rest := []) rfl rfl rfl (Nat.le_of_ble_eq_true rfl) (Nat.le_of_ble_eq_true rfl) (c_cellK (d + 7) 3 301 ((rd (TT b L) m).p.1) s0 (by omega) (by decide) rfl) ?_
          rw [hQk]
          refine w_blk 1 (pc' := 47) (ls' := [some (.ref 1), some (.ref 5), some (.int (nI m))]) (sk' := [.int 100, .int (nI (TT b L (rd (TT b L) m).p.1))]) (st' := s0) (fun _ h => h) ?_
          have ht : TT b L (rd (TT b L) m).p.1 = 100 := hs.elim (fun e => absurd e hf2) id
          refine w_cmp_eq rfl (fun _ => ?_) (fun hno => absurd (by rw [ht]; rfl) hno)
          exact keyE _ m s0 ⟨m, rfl, hs⟩ hQ hst hX hf
    · have hf2 : ¬ (rd (TT b L) m).p.2 = true := fun e => hs (Or.inl e)
      have hff : (rd (TT b L) m).p.2 = false := Bool.eq_false_iff.mpr hf2
      have ht : ¬ TT b L (rd (TT b L) m).p.1 = 100 := fun e => hs (Or.inr e)
      have hrm2 := hrm hff
      have hpl := hpt ht
      have hm3 : m < 300 := by omega
      exfalso; omega
  | succ f ih =>
    intro m s0 hm hns hQ hTT hst hX hf
    have hrm := rd_m (TT b L) m hns
    have hQk := XQ_tok hQ hTT
    have hT7 := hTT.2.2.1 (rd (TT b L) m).p.1
    have hqA := hQ.2.2
    have hpt : TT b L (rd (TT b L) m).p.1 ≠ 100 → (rd (TT b L) m).p.1 < L := fun h => TT_k h
    by_cases hs : stopQ (TT b L) (rd (TT b L) m)
    · refine w_blk 2 (pc' := 24) (ls' := [some (.ref 1), some (.ref 5), some (.int (nI m))]) (sk' := [.int 300, .int (nI m)]) (st' := s0) (fun _ h => h) ?_
      refine w_cmp_ge rfl (fun h1 => ?_) (fun h1 => ?_)
      · replace h1 : 300 ≤ m := (nI_leI (a := 300) (b := m) (by omega) (by omega)).mp h1
        exact keyE _ m s0 ⟨m, rfl, hs⟩ hQ hst hX hf
      · replace h1 : ¬ (300 ≤ m) := fun hh => h1 ((nI_leI (a := 300) (b := m) (by omega) (by omega)).mpr hh)
        by_cases hf2 : (rd (TT b L) m).p.2 = true
        · refine w_blk 2 (pc' := 31) (ls' := [some (.ref 1), some (.ref 5), some (.int (nI m))]) (sk' := [.int (s0.1 1 5)]) (st' := s0) (fun _ h => h) ?_
          rw [hQ.2.1.trans (pI_t hf2)]
          refine w_if_ne rfl (fun _ => ?_) (fun hno => absurd (by decide) hno)
          exact keyE _ m s0 ⟨m, rfl, hs⟩ hQ hst hX hf
        · refine w_blk 2 (pc' := 31) (ls' := [some (.ref 1), some (.ref 5), some (.int (nI m))]) (sk' := [.int (s0.1 1 5)]) (st' := s0) (fun _ h => h) ?_
          rw [hQ.2.1.trans (pI_f hf2)]
          refine w_if_ne rfl (fun hno => absurd hno (fun h => h rfl)) (fun _ => ?_)
          refine w_blk 4 (pc' := 42) (ls' := [some (.ref 1), some (.ref 5), some (.int (nI m))]) (sk' := [.int (s0.1 1 4), .ref 3]) (st' := s0) (fun _ h => h) ?_
          rw [hQ.1]
          refine w_callS (As := [.ref 3, .int (nI (rd (TT b L) m).p.1)]) (rest := []) rfl rfl rfl (Nat.le_of_ble_eq_true rfl) (Nat.le_of_ble_eq_true rfl) (c_cellK (d + 7) 3 301 ((rd (TT b L) m).p.1) s0 (by omega) (by decide) rfl) ?_
          rw [hQk]
          refine w_blk 1 (pc' := 47) (ls' := [some (.ref 1), some (.ref 5), some (.int (nI m))]) (sk' := [.int 100, .int (nI (TT b L (rd (TT b L) m).p.1))]) (st' := s0) (fun _ h => h) ?_
          have ht : TT b L (rd (TT b L) m).p.1 = 100 := hs.elim (fun e => absurd e hf2) id
          refine w_cmp_eq rfl (fun _ => ?_) (fun hno => absurd (by rw [ht]; rfl) hno)
          exact keyE _ m s0 ⟨m, rfl, hs⟩ hQ hst hX hf
    · have hf2 : ¬ (rd (TT b L) m).p.2 = true := fun e => hs (Or.inl e)
      have hff : (rd (TT b L) m).p.2 = false := Bool.eq_false_iff.mpr hf2
      have ht : ¬ TT b L (rd (TT b L) m).p.1 = 100 := fun e => hs (Or.inr e)
      have hrm2 := hrm hff
      have hpl := hpt ht
      have hm3 : m < 300 := by omega
      refine w_blk 2 (pc' := 24) (ls' := [some (.ref 1), some (.ref 5), some (.int (nI m))]) (sk' := [.int 300, .int (nI m)]) (st' := s0) (fun _ h => h) ?_
      refine w_cmp_ge rfl (fun hno => absurd hno (nI_ge (a := m) (b := 300) hm3 (by decide))) (fun _ => ?_)
      refine w_blk 2 (pc' := 31) (ls' := [some (.ref 1), some (.ref 5), some (.int (nI m))]) (sk' := [.int (s0.1 1 5)]) (st' := s0) (fun _ h => h) ?_
      rw [hQ.2.1.trans (pI_f hf2)]
      refine w_if_ne rfl (fun hno => absurd hno (fun h => h rfl)) (fun _ => ?_)
      refine w_blk 4 (pc' := 42) (ls' := [some (.ref 1), some (.ref 5), some (.int (nI m))]) (sk' := [.int (s0.1 1 4), .ref 3]) (st' := s0) (fun _ h => h) ?_
      rw [hQ.1]
      refine w_callS (As := [.ref 3, .int (nI (rd (TT b L) m).p.1)]) (rest := []) rfl rfl rfl (Nat.le_of_ble_eq_true rfl) (Nat.le_of_ble_eq_true rfl) (c_cellK (d + 7) 3 301 ((rd (TT b L) m).p.1) s0 (by omega) (by decide) rfl) ?_
      rw [hQk]
      refine w_blk 1 (pc' := 47) (ls' := [some (.ref 1), some (.ref 5), some (.int (nI m))]) (sk' := [.int 100, .int (nI (TT b L (rd (TT b L) m).p.1))]) (st' := s0) (fun _ h => h) ?_
      refine w_cmp_eq rfl (fun hno => absurd hno (fun e => ht ((nI_eq (b := 100) (by omega) (by decide)).mp e))) (fun _ => ?_)
      obtain ⟨s2, hc2, hQ2, hX2, hf9⟩ := c_readItem_5 (d + 3) (TT b L) A (rd (TT b L) m) s0 hQ hTT hff (hX hff) (rd_CB (TT b L) m)
      rw [← rd_s hs] at hQ2 hX2
      refine w_blk 2 (pc' := 52) (ls' := [some (.ref 1), some (.ref 5), some (.int (nI m))]) (sk' := [.ref 5, .ref 1]) (st' := s0) (fun _ h => h) ?_
      refine w_callV (As := [.ref 1, .ref 5]) (rest := []) rfl rfl rfl (Nat.le_of_ble_eq_true rfl) (Nat.le_of_ble_eq_true rfl) (by first | exact Or.inl ⟨rfl, rfl⟩ | exact Or.inr ⟨rfl, rfl⟩) hc2 ?_
      refine w_blk 1 (pc' := 58) (ls' := [some (.ref 1), some (.ref 5), some (.int ((nI m) + 1))]) (sk' := []) (st' := s2) (fun _ h => h) ?_
      rw [show ((nI m) + 1) = nI (m + 1) from nI_add m 1]
      refine w_blk 1 (pc' := 20) (ls' := [some (.ref 1), some (.ref 5), some (.int (nI (m + 1)))]) (sk' := []) (st' := s2) (fun _ h => h) ?_
      exact ih (m + 1) s2 (by omega) (fun j hj => if e : j = m then (by rw [e]; exact hs) else hns j (by omega)) hQ2 (XTo_e (hf9.1.1 3 (by decide)) hTT) (fun k hk => (congrFun (hf9.1.1 4 (by decide)) k).trans (hst k hk)) hX2 (FG.trans hf (FG.mono hf9 (by decide)))
set_option maxHeartbeats 4000000 in
set_option maxRecDepth 20000 in
/-- readD -/
theorem c_readD_13 (d : Nat) (T : Nat → Nat) (A : Nat) (q : RQ) (st : mSt) (hQ : XQ st A q.p) (hT : XTo st T A) (hqf : q.p.2 = false) (eT : T q.p.1 = 103) (hX : X13 st q.n q.c) (hB : CB q.n q.c) : ∃ (s : mSt), mMC mT (d + 4) 63 [.ref 1, .ref 13] st (none) s ∧ XQ s A (itm T q).p ∧ ((itm T q).p.2 = false → X13 s (itm T q).n (itm T q).c) ∧ FG [1, 13, 14, 15, 16, 17, 18, 19, 20] st s := by
  suffices H : ∀ Q : Option Value → mSt → Prop, (∀ (s : mSt), (XQ s A (itm T q).p ∧ ((itm T q).p.2 = false → X13 s (itm T q).n (itm T q).c) ∧ FG [1, 13, 14, 15, 16, 17, 18, 19, 20] st s) → Q (none) s) → mW (mMC mT (d + 3)) (0, fun _ => 0) (mAtL P_X7_readDigger) none Q 0 [some (.ref 1), some (.ref 13), none, none, none] [] st by
    obtain ⟨_, _, ⟨s, rfl, rfl, hp⟩, hw⟩ := mW_ex (H (fun vv tt => ∃ (s : mSt),  vv = none ∧ s = tt ∧ XQ s A (itm T q).p ∧ ((itm T q).p.2 = false → X13 s (itm T q).n (itm T q).c) ∧ FG [1, 13, 14, 15, 16, 17, 18, 19, 20] st s) (fun s hp => ⟨s, rfl, rfl, hp⟩))
    exact ⟨s, mI_X7_readDigger (d := d + 3) (Nat.le_of_ble_eq_true rfl) hw, hp⟩
  intro Q hq
  obtain ⟨hb0, hb1, hb2, -⟩ := id hB
  have hA := XQ_ne hQ hT (by rw [eT]; decide)
  refine w_blk 3 (pc' := 5) (ls' := [some (.ref 1), some (.ref 13), none, none, none]) (sk' := [.int (st.1 13 0), .ref 1]) (st' := st) (fun _ h => h) ?_
  rw [hX.1]
  refine w_blk 1 (pc' := 7) (ls' := [some (.ref 1), some (.ref 13), none, none, none]) (sk' := [.int 6, .int (nI (q.n 0)), .ref 1]) (st' := st) (fun _ h => h) ?_
  refine w_cmp_ge rfl (fun h1 => ?_) (fun h1 => ?_)
  · replace h1 : 6 ≤ q.n 0 := (nI_leI (a := 6) (b := (q.n 0)) (by omega) (by omega)).mp h1
    refine w_blk 1 (pc' := 15) (ls' := [some (.ref 1), some (.ref 13), none, none, none]) (sk' := [.int 0, .ref 1]) (st' := st) (fun _ h => h) ?_
    have hok : decide (q.n 0 < 6) = false := decide_eq_false (by omega)
    obtain ⟨s1, hc_2, hQ_3, hf_4⟩ := c_takeWord (d + 2) A q.p (decide (q.n 0 < 6)) 0 st hQ hqf hA (by rw [hok]; rfl)
    refine w_callV (As := [.ref 1, .int 0]) (rest := []) rfl rfl rfl (Nat.le_of_ble_eq_true rfl) (Nat.le_of_ble_eq_true rfl) (by first | exact Or.inl ⟨rfl, rfl⟩ | exact Or.inr ⟨rfl, rfl⟩) hc_2 ?_
    have hQ_5 : XQ s1 A (dg1 q) := hQ_3
    have hT_6 : XTo s1 T A := XTo_e (hf_4.1.1 3 (by decide)) hT
    have hX_7 : X13 s1 q.n q.c := X13_fr hf_4.1 (by decide) hX
    have hF_8 : FG [1, 13, 14, 15, 16, 17, 18, 19, 20] st s1 := FG.trans (FG.rf : FG [1, 13, 14, 15, 16, 17, 18, 19, 20] st st) (F1.fg hf_4 (by decide))
    refine w_blk 2 (pc' := 21) (ls' := [some (.ref 1), some (.ref 13), none, none, none]) (sk' := [.int 9, .ref 1]) (st' := s1) (fun _ h => h) ?_
    obtain ⟨s9, hc_10, hQ_11, hf_12⟩ := c_takeN9 (d + 0) T A (dg1 q) s1 hQ_5 hT_6
    refine w_callV (As := [.ref 1, .int 9]) (rest := []) rfl rfl rfl (Nat.le_of_ble_eq_true rfl) (Nat.le_of_ble_eq_true rfl) (by first | exact Or.inl ⟨rfl, rfl⟩ | exact Or.inr ⟨rfl, rfl⟩) hc_10 ?_
    have hQ_13 : XQ s9 A (dg2 T q) := hQ_11
    have hT_14 : XTo s9 T A := XTo_e (hf_12.1.1 3 (by decide)) hT_6
    have hX_15 : X13 s9 q.n q.c := X13_fr hf_12.1 (by decide) hX_7
    have hF_16 : FG [1, 13, 14, 15, 16, 17, 18, 19, 20] st s9 := FG.trans hF_8 (F1.fg hf_12 (by decide))
    refine w_blk 3 (pc' := 28) (ls' := [some (.ref 1), some (.ref 13), some (.int (nI (T (dg1 q).1))), none, none]) (sk' := [.int 9, .ref 1]) (st' := s9) (fun _ h => h) ?_
    obtain ⟨s17, hc_18, hQ_19, hf_20⟩ := c_takeN9 (d + 0) T A (dg2 T q) s9 hQ_13 hT_14
    refine w_callV (As := [.ref 1, .int 9]) (rest := []) rfl rfl rfl (Nat.le_of_ble_eq_true rfl) (Nat.le_of_ble_eq_true rfl) (by first | exact Or.inl ⟨rfl, rfl⟩ | exact Or.inr ⟨rfl, rfl⟩) hc_18 ?_
    have hQ_21 : XQ s17 A (dg3 T q) := hQ_19
    have hT_22 : XTo s17 T A := XTo_e (hf_20.1.1 3 (by decide)) hT_14
    have hX_23 : X13 s17 q.n q.c := X13_fr hf_20.1 (by decide) hX_15
    have hF_24 : FG [1, 13, 14, 15, 16, 17, 18, 19, 20] st s17 := FG.trans hF_16 (F1.fg hf_20 (by decide))
    refine w_blk 3 (pc' := 35) (ls' := [some (.ref 1), some (.ref 13), some (.int (nI (T (dg1 q).1))), some (.int (nI (T (dg2 T q).1))), none]) (sk' := [.int 107, .ref 1]) (st' := s17) (fun _ h => h) ?_
    obtain ⟨s25, hc_26, hQ_27, hf_28⟩ := c_takes (d + 1) T A (dg3 T q) 107 s17 hQ_21 hT_22 (by decide) (by decide)
    refine w_callV (As := [.ref 1, .int 107]) (rest := []) rfl rfl rfl (Nat.le_of_ble_eq_true rfl) (Nat.le_of_ble_eq_true rfl) (by first | exact Or.inl ⟨rfl, rfl⟩ | exact Or.inr ⟨rfl, rfl⟩) hc_26 ?_
    have hQ_29 : XQ s25 A (dg4 T q) := hQ_27
    have hT_30 : XTo s25 T A := XTo_e (hf_28.1.1 3 (by decide)) hT_22
    have hX_31 : X13 s25 q.n q.c := X13_fr hf_28.1 (by decide) hX_23
    have hF_32 : FG [1, 13, 14, 15, 16, 17, 18, 19, 20] st s25 := FG.trans hF_24 (F1.fg hf_28 (by decide))
    refine w_blk 2 (pc' := 41) (ls' := [some (.ref 1), some (.ref 13), some (.int (nI (T (dg1 q).1))), some (.int (nI (T (dg2 T q).1))), some (.int (pI ((dg3 T q).2 = false ∧ T (dg3 T q).1 = 107)))]) (sk' := [.ref 1]) (st' := s25) (fun _ h => h) ?_
    obtain ⟨s33, hc_34, hQ_35, hf_36⟩ := c_takeS (d + 0) T A (dg4 T q) s25 hQ_29 hT_30
    refine w_callV (As := [.ref 1]) (rest := []) rfl rfl rfl (Nat.le_of_ble_eq_true rfl) (Nat.le_of_ble_eq_true rfl) (by first | exact Or.inl ⟨rfl, rfl⟩ | exact Or.inr ⟨rfl, rfl⟩) hc_34 ?_
    have hQ_37 : XQ s33 A (dg5 T q) := hQ_35
    have hT_38 : XTo s33 T A := XTo_e (hf_36.1.1 3 (by decide)) hT_30
    have hX_39 : X13 s33 q.n q.c := X13_fr hf_36.1 (by decide) hX_31
    have hF_40 : FG [1, 13, 14, 15, 16, 17, 18, 19, 20] st s33 := FG.trans hF_32 (F1.fg hf_36 (by decide))
    refine w_blk 2 (pc' := 48) (ls' := [some (.ref 1), some (.ref 13), some (.int (nI (T (dg1 q).1))), some (.int (nI (T (dg2 T q).1))), some (.int (pI ((dg3 T q).2 = false ∧ T (dg3 T q).1 = 107)))]) (sk' := [.int (s33.1 1 5)]) (st' := s33) (fun _ h => h) ?_
    rw [hQ_37.2.1]
    refine w_if_ne rfl (fun h2 => ?_) (fun h2 => ?_)
    · replace h2 := pI_ne.mp h2
      exact w_vret rfl rfl (hq s33 ⟨by rw [itm_pD eT]; exact hQ_37, fun h => absurd h (by rw [itm_pD eT, h2]; decide), hF_40⟩)
    · replace h2 := pI_eq0.mp (Decidable.not_not.mp h2)
      have hz : (dg5 T q).2 = false := Bool.eq_false_iff.mpr h2
      have hf9 := dg5_f hz
      have hz3 := pI_107 (T := T) hf9.2.2.2.2.2
      rw [hz3]
      obtain ⟨s41, hc_42, hX_43, hf_44, h2_45⟩ := c_addD_13 (d + 1) q.n q.c (T (dg1 q).1) (T (dg2 T q).1) (if T (dg3 T q).1 = 107 then 1 else 0) s33 hX_39 hf9.2.1 (by split <;> decide)
      refine w_blk 4 (pc' := 56) (ls' := [some (.ref 1), some (.ref 13), some (.int (nI (T (dg1 q).1))), some (.int (nI (T (dg2 T q).1))), some (.int (nI (if T (dg3 T q).1 = 107 then 1 else 0)))]) (sk' := [.int (nI (if T (dg3 T q).1 = 107 then 1 else 0)), .int (nI (T (dg2 T q).1)), .int (nI (T (dg1 q).1)), .ref 13]) (st' := s33) (fun _ h => h) ?_
      refine w_callV (As := [.ref 13, .int (nI (T (dg1 q).1)), .int (nI (T (dg2 T q).1)), .int (nI (if T (dg3 T q).1 = 107 then 1 else 0))]) (rest := []) rfl rfl rfl (Nat.le_of_ble_eq_true rfl) (Nat.le_of_ble_eq_true rfl) (by first | exact Or.inl ⟨rfl, rfl⟩ | exact Or.inr ⟨rfl, rfl⟩) hc_42 ?_
      obtain ⟨g1, g2⟩ := itm_D eT hz
      exact w_vret rfl rfl (hq s41 ⟨by rw [itm_pD eT]; exact XQ_e (hf_44.1 1 (by decide)) hQ_37, fun _ => by rw [g1, g2]; exact hX_43, FG.trans hF_40 (FG.fr hf_44 h2_45 (by decide) (by decide))⟩)
  · replace h1 : ¬ (6 ≤ q.n 0) := fun hh => h1 ((nI_leI (a := 6) (b := (q.n 0)) (by omega) (by omega)).mpr hh)
    refine w_blk 2 (pc' := 15) (ls' := [some (.ref 1), some (.ref 13), none, none, none]) (sk' := [.int 1, .ref 1]) (st' := st) (fun _ h => h) ?_
    have hok : decide (q.n 0 < 6) = true := decide_eq_true (by omega)
    obtain ⟨s46, hc_47, hQ_48, hf_49⟩ := c_takeWord (d + 2) A q.p (decide (q.n 0 < 6)) 1 st hQ hqf hA (by rw [hok]; rfl)
    refine w_callV (As := [.ref 1, .int 1]) (rest := []) rfl rfl rfl (Nat.le_of_ble_eq_true rfl) (Nat.le_of_ble_eq_true rfl) (by first | exact Or.inl ⟨rfl, rfl⟩ | exact Or.inr ⟨rfl, rfl⟩) hc_47 ?_
    have hQ_50 : XQ s46 A (dg1 q) := hQ_48
    have hT_51 : XTo s46 T A := XTo_e (hf_49.1.1 3 (by decide)) hT
    have hX_52 : X13 s46 q.n q.c := X13_fr hf_49.1 (by decide) hX
    have hF_53 : FG [1, 13, 14, 15, 16, 17, 18, 19, 20] st s46 := FG.trans (FG.rf : FG [1, 13, 14, 15, 16, 17, 18, 19, 20] st st) (F1.fg hf_49 (by decide))
    refine w_blk 2 (pc' := 21) (ls' := [some (.ref 1), some (.ref 13), none, none, none]) (sk' := [.int 9, .ref 1]) (st' := s46) (fun _ h => h) ?_
    obtain ⟨s54, hc_55, hQ_56, hf_57⟩ := c_takeN9 (d + 0) T A (dg1 q) s46 hQ_50 hT_51
    refine w_callV (As := [.ref 1, .int 9]) (rest := []) rfl rfl rfl (Nat.le_of_ble_eq_true rfl) (Nat.le_of_ble_eq_true rfl) (by first | exact Or.inl ⟨rfl, rfl⟩ | exact Or.inr ⟨rfl, rfl⟩) hc_55 ?_
    have hQ_58 : XQ s54 A (dg2 T q) := hQ_56
    have hT_59 : XTo s54 T A := XTo_e (hf_57.1.1 3 (by decide)) hT_51
    have hX_60 : X13 s54 q.n q.c := X13_fr hf_57.1 (by decide) hX_52
    have hF_61 : FG [1, 13, 14, 15, 16, 17, 18, 19, 20] st s54 := FG.trans hF_53 (F1.fg hf_57 (by decide))
    refine w_blk 3 (pc' := 28) (ls' := [some (.ref 1), some (.ref 13), some (.int (nI (T (dg1 q).1))), none, none]) (sk' := [.int 9, .ref 1]) (st' := s54) (fun _ h => h) ?_
    obtain ⟨s62, hc_63, hQ_64, hf_65⟩ := c_takeN9 (d + 0) T A (dg2 T q) s54 hQ_58 hT_59
    refine w_callV (As := [.ref 1, .int 9]) (rest := []) rfl rfl rfl (Nat.le_of_ble_eq_true rfl) (Nat.le_of_ble_eq_true rfl) (by first | exact Or.inl ⟨rfl, rfl⟩ | exact Or.inr ⟨rfl, rfl⟩) hc_63 ?_
    have hQ_66 : XQ s62 A (dg3 T q) := hQ_64
    have hT_67 : XTo s62 T A := XTo_e (hf_65.1.1 3 (by decide)) hT_59
    have hX_68 : X13 s62 q.n q.c := X13_fr hf_65.1 (by decide) hX_60
    have hF_69 : FG [1, 13, 14, 15, 16, 17, 18, 19, 20] st s62 := FG.trans hF_61 (F1.fg hf_65 (by decide))
    refine w_blk 3 (pc' := 35) (ls' := [some (.ref 1), some (.ref 13), some (.int (nI (T (dg1 q).1))), some (.int (nI (T (dg2 T q).1))), none]) (sk' := [.int 107, .ref 1]) (st' := s62) (fun _ h => h) ?_
    obtain ⟨s70, hc_71, hQ_72, hf_73⟩ := c_takes (d + 1) T A (dg3 T q) 107 s62 hQ_66 hT_67 (by decide) (by decide)
    refine w_callV (As := [.ref 1, .int 107]) (rest := []) rfl rfl rfl (Nat.le_of_ble_eq_true rfl) (Nat.le_of_ble_eq_true rfl) (by first | exact Or.inl ⟨rfl, rfl⟩ | exact Or.inr ⟨rfl, rfl⟩) hc_71 ?_
    have hQ_74 : XQ s70 A (dg4 T q) := hQ_72
    have hT_75 : XTo s70 T A := XTo_e (hf_73.1.1 3 (by decide)) hT_67
    have hX_76 : X13 s70 q.n q.c := X13_fr hf_73.1 (by decide) hX_68
    have hF_77 : FG [1, 13, 14, 15, 16, 17, 18, 19, 20] st s70 := FG.trans hF_69 (F1.fg hf_73 (by decide))
    refine w_blk 2 (pc' := 41) (ls' := [some (.ref 1), some (.ref 13), some (.int (nI (T (dg1 q).1))), some (.int (nI (T (dg2 T q).1))), some (.int (pI ((dg3 T q).2 = false ∧ T (dg3 T q).1 = 107)))]) (sk' := [.ref 1]) (st' := s70) (fun _ h => h) ?_
    obtain ⟨s78, hc_79, hQ_80, hf_81⟩ := c_takeS (d + 0) T A (dg4 T q) s70 hQ_74 hT_75
    refine w_callV (As := [.ref 1]) (rest := []) rfl rfl rfl (Nat.le_of_ble_eq_true rfl) (Nat.le_of_ble_eq_true rfl) (by first | exact Or.inl ⟨rfl, rfl⟩ | exact Or.inr ⟨rfl, rfl⟩) hc_79 ?_
    have hQ_82 : XQ s78 A (dg5 T q) := hQ_80
    have hT_83 : XTo s78 T A := XTo_e (hf_81.1.1 3 (by decide)) hT_75
    have hX_84 : X13 s78 q.n q.c := X13_fr hf_81.1 (by decide) hX_76
    have hF_85 : FG [1, 13, 14, 15, 16, 17, 18, 19, 20] st s78 := FG.trans hF_77 (F1.fg hf_81 (by decide))
    refine w_blk 2 (pc' := 48) (ls' := [some (.ref 1), some (.ref 13), some (.int (nI (T (dg1 q).1))), some (.int (nI (T (dg2 T q).1))), some (.int (pI ((dg3 T q).2 = false ∧ T (dg3 T q).1 = 107)))]) (sk' := [.int (s78.1 1 5)]) (st' := s78) (fun _ h => h) ?_
    rw [hQ_82.2.1]
    refine w_if_ne rfl (fun h2 => ?_) (fun h2 => ?_)
    · replace h2 := pI_ne.mp h2
      exact w_vret rfl rfl (hq s78 ⟨by rw [itm_pD eT]; exact hQ_82, fun h => absurd h (by rw [itm_pD eT, h2]; decide), hF_85⟩)
    · replace h2 := pI_eq0.mp (Decidable.not_not.mp h2)
      have hz : (dg5 T q).2 = false := Bool.eq_false_iff.mpr h2
      have hf9 := dg5_f hz
      have hz3 := pI_107 (T := T) hf9.2.2.2.2.2
      rw [hz3]
      obtain ⟨s86, hc_87, hX_88, hf_89, h2_90⟩ := c_addD_13 (d + 1) q.n q.c (T (dg1 q).1) (T (dg2 T q).1) (if T (dg3 T q).1 = 107 then 1 else 0) s78 hX_84 hf9.2.1 (by split <;> decide)
      refine w_blk 4 (pc' := 56) (ls' := [some (.ref 1), some (.ref 13), some (.int (nI (T (dg1 q).1))), some (.int (nI (T (dg2 T q).1))), some (.int (nI (if T (dg3 T q).1 = 107 then 1 else 0)))]) (sk' := [.int (nI (if T (dg3 T q).1 = 107 then 1 else 0)), .int (nI (T (dg2 T q).1)), .int (nI (T (dg1 q).1)), .ref 13]) (st' := s78) (fun _ h => h) ?_
      refine w_callV (As := [.ref 13, .int (nI (T (dg1 q).1)), .int (nI (T (dg2 T q).1)), .int (nI (if T (dg3 T q).1 = 107 then 1 else 0))]) (rest := []) rfl rfl rfl (Nat.le_of_ble_eq_true rfl) (Nat.le_of_ble_eq_true rfl) (by first | exact Or.inl ⟨rfl, rfl⟩ | exact Or.inr ⟨rfl, rfl⟩) hc_87 ?_
      obtain ⟨g1, g2⟩ := itm_D eT hz
      exact w_vret rfl rfl (hq s86 ⟨by rw [itm_pD eT]; exact XQ_e (hf_89.1 1 (by decide)) hQ_82, fun _ => by rw [g1, g2]; exact hX_88, FG.trans hF_85 (FG.fr hf_89 h2_90 (by decide) (by decide))⟩)
set_option maxHeartbeats 4000000 in
set_option maxRecDepth 20000 in
/-- readS -/
theorem c_readS_13 (d : Nat) (T : Nat → Nat) (A : Nat) (q : RQ) (st : mSt) (hQ : XQ st A q.p) (hT : XTo st T A) (hqf : q.p.2 = false) (eT : T q.p.1 = 104) (hX : X13 st q.n q.c) (hB : CB q.n q.c) : ∃ (s : mSt), mMC mT (d + 4) 64 [.ref 1, .ref 13] st (none) s ∧ XQ s A (itm T q).p ∧ ((itm T q).p.2 = false → X13 s (itm T q).n (itm T q).c) ∧ FG [1, 13, 14, 15, 16, 17, 18, 19, 20] st s := by
  suffices H : ∀ Q : Option Value → mSt → Prop, (∀ (s : mSt), (XQ s A (itm T q).p ∧ ((itm T q).p.2 = false → X13 s (itm T q).n (itm T q).c) ∧ FG [1, 13, 14, 15, 16, 17, 18, 19, 20] st s) → Q (none) s) → mW (mMC mT (d + 3)) (0, fun _ => 0) (mAtL P_X7_readSpade) none Q 0 [some (.ref 1), some (.ref 13), none, none] [] st by
    obtain ⟨_, _, ⟨s, rfl, rfl, hp⟩, hw⟩ := mW_ex (H (fun vv tt => ∃ (s : mSt),  vv = none ∧ s = tt ∧ XQ s A (itm T q).p ∧ ((itm T q).p.2 = false → X13 s (itm T q).n (itm T q).c) ∧ FG [1, 13, 14, 15, 16, 17, 18, 19, 20] st s) (fun s hp => ⟨s, rfl, rfl, hp⟩))
    exact ⟨s, mI_X7_readSpade (d := d + 3) (Nat.le_of_ble_eq_true rfl) hw, hp⟩
  intro Q hq
  obtain ⟨hb0, hb1, hb2, -⟩ := id hB
  have hA := XQ_ne hQ hT (by rw [eT]; decide)
  refine w_blk 3 (pc' := 5) (ls' := [some (.ref 1), some (.ref 13), none, none]) (sk' := [.int (st.1 13 1), .ref 1]) (st' := st) (fun _ h => h) ?_
  rw [hX.2.1]
  refine w_blk 1 (pc' := 7) (ls' := [some (.ref 1), some (.ref 13), none, none]) (sk' := [.int 8, .int (nI (q.n 1)), .ref 1]) (st' := st) (fun _ h => h) ?_
  refine w_cmp_ge rfl (fun h1 => ?_) (fun h1 => ?_)
  · replace h1 : 8 ≤ q.n 1 := (nI_leI (a := 8) (b := (q.n 1)) (by omega) (by omega)).mp h1
    refine w_blk 1 (pc' := 15) (ls' := [some (.ref 1), some (.ref 13), none, none]) (sk' := [.int 0, .ref 1]) (st' := st) (fun _ h => h) ?_
    have hok : decide (q.n 1 < 8) = false := decide_eq_false (by omega)
    obtain ⟨s1, hc_2, hQ_3, hf_4⟩ := c_takeWord (d + 2) A q.p (decide (q.n 1 < 8)) 0 st hQ hqf hA (by rw [hok]; rfl)
    refine w_callV (As := [.ref 1, .int 0]) (rest := []) rfl rfl rfl (Nat.le_of_ble_eq_true rfl) (Nat.le_of_ble_eq_true rfl) (by first | exact Or.inl ⟨rfl, rfl⟩ | exact Or.inr ⟨rfl, rfl⟩) hc_2 ?_
    have hQ_5 : XQ s1 A (sd1 q) := hQ_3
    have hT_6 : XTo s1 T A := XTo_e (hf_4.1.1 3 (by decide)) hT
    have hX_7 : X13 s1 q.n q.c := X13_fr hf_4.1 (by decide) hX
    have hF_8 : FG [1, 13, 14, 15, 16, 17, 18, 19, 20] st s1 := FG.trans (FG.rf : FG [1, 13, 14, 15, 16, 17, 18, 19, 20] st st) (F1.fg hf_4 (by decide))
    refine w_blk 2 (pc' := 21) (ls' := [some (.ref 1), some (.ref 13), none, none]) (sk' := [.int 9, .ref 1]) (st' := s1) (fun _ h => h) ?_
    obtain ⟨s9, hc_10, hQ_11, hf_12⟩ := c_takeN9 (d + 0) T A (sd1 q) s1 hQ_5 hT_6
    refine w_callV (As := [.ref 1, .int 9]) (rest := []) rfl rfl rfl (Nat.le_of_ble_eq_true rfl) (Nat.le_of_ble_eq_true rfl) (by first | exact Or.inl ⟨rfl, rfl⟩ | exact Or.inr ⟨rfl, rfl⟩) hc_10 ?_
    have hQ_13 : XQ s9 A (sd2 T q) := hQ_11
    have hT_14 : XTo s9 T A := XTo_e (hf_12.1.1 3 (by decide)) hT_6
    have hX_15 : X13 s9 q.n q.c := X13_fr hf_12.1 (by decide) hX_7
    have hF_16 : FG [1, 13, 14, 15, 16, 17, 18, 19, 20] st s9 := FG.trans hF_8 (F1.fg hf_12 (by decide))
    refine w_blk 3 (pc' := 28) (ls' := [some (.ref 1), some (.ref 13), some (.int (nI (T (sd1 q).1))), none]) (sk' := [.int 106, .ref 1]) (st' := s9) (fun _ h => h) ?_
    obtain ⟨s17, hc_18, hQ_19, hf_20⟩ := c_takes (d + 1) T A (sd2 T q) 106 s9 hQ_13 hT_14 (by decide) (by decide)
    refine w_callV (As := [.ref 1, .int 106]) (rest := []) rfl rfl rfl (Nat.le_of_ble_eq_true rfl) (Nat.le_of_ble_eq_true rfl) (by first | exact Or.inl ⟨rfl, rfl⟩ | exact Or.inr ⟨rfl, rfl⟩) hc_18 ?_
    refine w_if_eq rfl (fun h7 => ?_) (fun h7 => ?_)
    · replace h7 := pI_eq0.mp h7
      refine w_blk 2 (pc' := 41) (ls' := [some (.ref 1), some (.ref 13), some (.int (nI (T (sd1 q).1))), none]) (sk' := [.int 107, .ref 1]) (st' := s17) (fun _ h => h) ?_
      have hsame : opt (decide (T (sd2 T q).1 = 106)) (sd2 T q) = sd2 T q := by
        rcases hz2 : (sd2 T q).2 with _ | _
        · exact opt_no (decide_eq_false (fun e => h7 ⟨hz2, e⟩))
        · exact opt_st hz2
      rw [hsame] at hQ_19
      obtain ⟨s21, hc_22, hQ_23, hf_24⟩ := c_takes (d + 1) T A (sd2 T q) 107 s17 hQ_19 (XTo_e (hf_20.1.1 3 (by decide)) hT_14) (by decide) (by decide)
      have hf12 := F1.trans hf_20 hf_24
      refine w_callV (As := [.ref 1, .int 107]) (rest := []) rfl rfl rfl (Nat.le_of_ble_eq_true rfl) (Nat.le_of_ble_eq_true rfl) (by first | exact Or.inl ⟨rfl, rfl⟩ | exact Or.inr ⟨rfl, rfl⟩) hc_22 ?_
      refine w_if_eq rfl (fun h8 => ?_) (fun h8 => ?_)
      · replace h8 := pI_eq0.mp h8
        refine w_blk 1 (pc' := 52) (ls' := [some (.ref 1), some (.ref 13), some (.int (nI (T (sd1 q).1))), none]) (sk' := [.int 0]) (st' := s21) (fun _ h => h) ?_
        have hsd3 : sd3 T q = sd2 T q := by
          rcases hz2 : (sd2 T q).2 with _ | _
          · exact opt_no (decide_eq_false (fun e => e.elim (fun e => h7 ⟨hz2, e⟩) (fun e => h8 ⟨hz2, e⟩)))
          · exact opt_st hz2
        have hsam2 : opt (decide (T (sd2 T q).1 = 107)) (sd2 T q) = sd2 T q := by
          rcases hz2 : (sd2 T q).2 with _ | _
          · exact opt_no (decide_eq_false (fun e => h8 ⟨hz2, e⟩))
          · exact opt_st hz2
        rw [hsam2] at hQ_23
        have hQ_25 : XQ s21 A (sd3 T q) := by rw [show sd3 T q = _ from hsd3]; exact hQ_23
        have hT_26 : XTo s21 T A := XTo_e (hf12.1.1 3 (by decide)) hT_14
        have hX_27 : X13 s21 q.n q.c := X13_fr hf12.1 (by decide) hX_15
        have hF_28 : FG [1, 13, 14, 15, 16, 17, 18, 19, 20] st s21 := FG.trans hF_16 (F1.fg hf12 (by decide))
        have hwm : (sd2 T q).2 = false → 0 = wm (T (sd2 T q).1) := fun hz2 => ((if_neg (fun e => h7 ⟨hz2, e⟩)).trans (if_neg (fun e => h8 ⟨hz2, e⟩))).symm
        refine w_blk 2 (pc' := 54) (ls' := [some (.ref 1), some (.ref 13), some (.int (nI (T (sd1 q).1))), some (.int 0)]) (sk' := [.ref 1]) (st' := s21) (fun _ h => h) ?_
        obtain ⟨s29, hc_30, hQ_31, hf_32⟩ := c_takeS (d + 0) T A (sd3 T q) s21 hQ_25 hT_26
        refine w_callV (As := [.ref 1]) (rest := []) rfl rfl rfl (Nat.le_of_ble_eq_true rfl) (Nat.le_of_ble_eq_true rfl) (by first | exact Or.inl ⟨rfl, rfl⟩ | exact Or.inr ⟨rfl, rfl⟩) hc_30 ?_
        replace hQ_31 : XQ s29 A (sd4 T q) := hQ_31
        have hX_33 : X13 s29 q.n q.c := X13_fr hf_32.1 (by decide) hX_27
        have hF_34 : FG [1, 13, 14, 15, 16, 17, 18, 19, 20] st s29 := FG.trans hF_28 (F1.fg hf_32 (by decide))
        refine w_blk 2 (pc' := 61) (ls' := [some (.ref 1), some (.ref 13), some (.int (nI (T (sd1 q).1))), some (.int 0)]) (sk' := [.int (s29.1 1 5)]) (st' := s29) (fun _ h => h) ?_
        rw [hQ_31.2.1]
        refine w_if_ne rfl (fun h2 => ?_) (fun h2 => ?_)
        · replace h2 := pI_ne.mp h2
          exact w_vret rfl rfl (hq s29 ⟨by rw [itm_pS eT]; exact hQ_31, fun h => absurd h (by rw [itm_pS eT, h2]; decide), hF_34⟩)
        · replace h2 := pI_eq0.mp (Decidable.not_not.mp h2)
          have hz : (sd4 T q).2 = false := Bool.eq_false_iff.mpr h2
          have hf9 := sd4_f hz
          have hwm2 := hwm hf9.2.2.2.2
          obtain ⟨s35, hc_36, hX_37, hf_38, h2_39⟩ := c_addS_13 (d + 1) q.n q.c (T (sd1 q).1) 0 s29 hX_33 hf9.2.1
          refine w_blk 3 (pc' := 67) (ls' := [some (.ref 1), some (.ref 13), some (.int (nI (T (sd1 q).1))), some (.int 0)]) (sk' := [.int 0, .int (nI (T (sd1 q).1)), .ref 13]) (st' := s29) (fun _ h => h) ?_
          refine w_callV (As := [.ref 13, .int (nI (T (sd1 q).1)), .int 0]) (rest := []) rfl rfl rfl (Nat.le_of_ble_eq_true rfl) (Nat.le_of_ble_eq_true rfl) (by first | exact Or.inl ⟨rfl, rfl⟩ | exact Or.inr ⟨rfl, rfl⟩) hc_36 ?_
          obtain ⟨g1, g2⟩ := itm_S eT hz
          have g3 : sdC T q = upd2 (upd2 q.c 3 (q.n 1) (T (sd1 q).1)) 4 (q.n 1) 0 := by unfold sdC; rw [← hwm2]
          exact w_vret rfl rfl (hq s35 ⟨by rw [itm_pS eT]; exact XQ_e (hf_38.1 1 (by decide)) hQ_31, fun _ => by rw [g1, g2, g3]; exact hX_37, FG.trans hF_34 (FG.fr hf_38 h2_39 (by decide) (by decide))⟩)
      · replace h8 := pI_ne.mp h8
        refine w_blk 2 (pc' := 52) (ls' := [some (.ref 1), some (.ref 13), some (.int (nI (T (sd1 q).1))), none]) (sk' := [.int 2]) (st' := s21) (fun _ h => h) ?_
        have hsd3 : sd3 T q = ((sd2 T q).1 + 1, (sd2 T q).2) := opt_go h8.1 (decide_eq_true (Or.inr h8.2))
        rw [opt_go h8.1 (decide_eq_true h8.2)] at hQ_23
        have hQ_40 : XQ s21 A (sd3 T q) := by rw [show sd3 T q = _ from hsd3]; exact hQ_23
        have hT_41 : XTo s21 T A := XTo_e (hf12.1.1 3 (by decide)) hT_14
        have hX_42 : X13 s21 q.n q.c := X13_fr hf12.1 (by decide) hX_15
        have hF_43 : FG [1, 13, 14, 15, 16, 17, 18, 19, 20] st s21 := FG.trans hF_16 (F1.fg hf12 (by decide))
        have hwm : (sd2 T q).2 = false → 2 = wm (T (sd2 T q).1) := fun hz2 => ((if_neg (by rw [h8.2]; decide)).trans (if_pos h8.2)).symm
        refine w_blk 2 (pc' := 54) (ls' := [some (.ref 1), some (.ref 13), some (.int (nI (T (sd1 q).1))), some (.int 2)]) (sk' := [.ref 1]) (st' := s21) (fun _ h => h) ?_
        obtain ⟨s44, hc_45, hQ_46, hf_47⟩ := c_takeS (d + 0) T A (sd3 T q) s21 hQ_40 hT_41
        refine w_callV (As := [.ref 1]) (rest := []) rfl rfl rfl (Nat.le_of_ble_eq_true rfl) (Nat.le_of_ble_eq_true rfl) (by first | exact Or.inl ⟨rfl, rfl⟩ | exact Or.inr ⟨rfl, rfl⟩) hc_45 ?_
        replace hQ_46 : XQ s44 A (sd4 T q) := hQ_46
        have hX_48 : X13 s44 q.n q.c := X13_fr hf_47.1 (by decide) hX_42
        have hF_49 : FG [1, 13, 14, 15, 16, 17, 18, 19, 20] st s44 := FG.trans hF_43 (F1.fg hf_47 (by decide))
        refine w_blk 2 (pc' := 61) (ls' := [some (.ref 1), some (.ref 13), some (.int (nI (T (sd1 q).1))), some (.int 2)]) (sk' := [.int (s44.1 1 5)]) (st' := s44) (fun _ h => h) ?_
        rw [hQ_46.2.1]
        refine w_if_ne rfl (fun h2 => ?_) (fun h2 => ?_)
        · replace h2 := pI_ne.mp h2
          exact w_vret rfl rfl (hq s44 ⟨by rw [itm_pS eT]; exact hQ_46, fun h => absurd h (by rw [itm_pS eT, h2]; decide), hF_49⟩)
        · replace h2 := pI_eq0.mp (Decidable.not_not.mp h2)
          have hz : (sd4 T q).2 = false := Bool.eq_false_iff.mpr h2
          have hf9 := sd4_f hz
          have hwm2 := hwm hf9.2.2.2.2
          obtain ⟨s50, hc_51, hX_52, hf_53, h2_54⟩ := c_addS_13 (d + 1) q.n q.c (T (sd1 q).1) 2 s44 hX_48 hf9.2.1
          refine w_blk 3 (pc' := 67) (ls' := [some (.ref 1), some (.ref 13), some (.int (nI (T (sd1 q).1))), some (.int 2)]) (sk' := [.int 2, .int (nI (T (sd1 q).1)), .ref 13]) (st' := s44) (fun _ h => h) ?_
          refine w_callV (As := [.ref 13, .int (nI (T (sd1 q).1)), .int 2]) (rest := []) rfl rfl rfl (Nat.le_of_ble_eq_true rfl) (Nat.le_of_ble_eq_true rfl) (by first | exact Or.inl ⟨rfl, rfl⟩ | exact Or.inr ⟨rfl, rfl⟩) hc_51 ?_
          obtain ⟨g1, g2⟩ := itm_S eT hz
          have g3 : sdC T q = upd2 (upd2 q.c 3 (q.n 1) (T (sd1 q).1)) 4 (q.n 1) 2 := by unfold sdC; rw [← hwm2]
          exact w_vret rfl rfl (hq s50 ⟨by rw [itm_pS eT]; exact XQ_e (hf_53.1 1 (by decide)) hQ_46, fun _ => by rw [g1, g2, g3]; exact hX_52, FG.trans hF_49 (FG.fr hf_53 h2_54 (by decide) (by decide))⟩)
    · replace h7 := pI_ne.mp h7
      refine w_blk 2 (pc' := 52) (ls' := [some (.ref 1), some (.ref 13), some (.int (nI (T (sd1 q).1))), none]) (sk' := [.int 1]) (st' := s17) (fun _ h => h) ?_
      have hsd3 : sd3 T q = ((sd2 T q).1 + 1, (sd2 T q).2) := opt_go h7.1 (decide_eq_true (Or.inl h7.2))
      rw [opt_go h7.1 (decide_eq_true h7.2)] at hQ_19
      have hQ_55 : XQ s17 A (sd3 T q) := by rw [show sd3 T q = _ from hsd3]; exact hQ_19
      have hT_56 : XTo s17 T A := XTo_e (hf_20.1.1 3 (by decide)) hT_14
      have hX_57 : X13 s17 q.n q.c := X13_fr hf_20.1 (by decide) hX_15
      have hF_58 : FG [1, 13, 14, 15, 16, 17, 18, 19, 20] st s17 := FG.trans hF_16 (F1.fg hf_20 (by decide))
      have hwm : (sd2 T q).2 = false → 1 = wm (T (sd2 T q).1) := fun hz2 => (if_pos h7.2).symm
      refine w_blk 2 (pc' := 54) (ls' := [some (.ref 1), some (.ref 13), some (.int (nI (T (sd1 q).1))), some (.int 1)]) (sk' := [.ref 1]) (st' := s17) (fun _ h => h) ?_
      obtain ⟨s59, hc_60, hQ_61, hf_62⟩ := c_takeS (d + 0) T A (sd3 T q) s17 hQ_55 hT_56
      refine w_callV (As := [.ref 1]) (rest := []) rfl rfl rfl (Nat.le_of_ble_eq_true rfl) (Nat.le_of_ble_eq_true rfl) (by first | exact Or.inl ⟨rfl, rfl⟩ | exact Or.inr ⟨rfl, rfl⟩) hc_60 ?_
      replace hQ_61 : XQ s59 A (sd4 T q) := hQ_61
      have hX_63 : X13 s59 q.n q.c := X13_fr hf_62.1 (by decide) hX_57
      have hF_64 : FG [1, 13, 14, 15, 16, 17, 18, 19, 20] st s59 := FG.trans hF_58 (F1.fg hf_62 (by decide))
      refine w_blk 2 (pc' := 61) (ls' := [some (.ref 1), some (.ref 13), some (.int (nI (T (sd1 q).1))), some (.int 1)]) (sk' := [.int (s59.1 1 5)]) (st' := s59) (fun _ h => h) ?_
      rw [hQ_61.2.1]
      refine w_if_ne rfl (fun h2 => ?_) (fun h2 => ?_)
      · replace h2 := pI_ne.mp h2
        exact w_vret rfl rfl (hq s59 ⟨by rw [itm_pS eT]; exact hQ_61, fun h => absurd h (by rw [itm_pS eT, h2]; decide), hF_64⟩)
      · replace h2 := pI_eq0.mp (Decidable.not_not.mp h2)
        have hz : (sd4 T q).2 = false := Bool.eq_false_iff.mpr h2
        have hf9 := sd4_f hz
        have hwm2 := hwm hf9.2.2.2.2
        obtain ⟨s65, hc_66, hX_67, hf_68, h2_69⟩ := c_addS_13 (d + 1) q.n q.c (T (sd1 q).1) 1 s59 hX_63 hf9.2.1
        refine w_blk 3 (pc' := 67) (ls' := [some (.ref 1), some (.ref 13), some (.int (nI (T (sd1 q).1))), some (.int 1)]) (sk' := [.int 1, .int (nI (T (sd1 q).1)), .ref 13]) (st' := s59) (fun _ h => h) ?_
        refine w_callV (As := [.ref 13, .int (nI (T (sd1 q).1)), .int 1]) (rest := []) rfl rfl rfl (Nat.le_of_ble_eq_true rfl) (Nat.le_of_ble_eq_true rfl) (by first | exact Or.inl ⟨rfl, rfl⟩ | exact Or.inr ⟨rfl, rfl⟩) hc_66 ?_
        obtain ⟨g1, g2⟩ := itm_S eT hz
        have g3 : sdC T q = upd2 (upd2 q.c 3 (q.n 1) (T (sd1 q).1)) 4 (q.n 1) 1 := by unfold sdC; rw [← hwm2]
        exact w_vret rfl rfl (hq s65 ⟨by rw [itm_pS eT]; exact XQ_e (hf_68.1 1 (by decide)) hQ_61, fun _ => by rw [g1, g2, g3]; exact hX_67, FG.trans hF_64 (FG.fr hf_68 h2_69 (by decide) (by decide))⟩)
  · replace h1 : ¬ (8 ≤ q.n 1) := fun hh => h1 ((nI_leI (a := 8) (b := (q.n 1)) (by omega) (by omega)).mpr hh)
    refine w_blk 2 (pc' := 15) (ls' := [some (.ref 1), some (.ref 13), none, none]) (sk' := [.int 1, .ref 1]) (st' := st) (fun _ h => h) ?_
    have hok : decide (q.n 1 < 8) = true := decide_eq_true (by omega)
    obtain ⟨s70, hc_71, hQ_72, hf_73⟩ := c_takeWord (d + 2) A q.p (decide (q.n 1 < 8)) 1 st hQ hqf hA (by rw [hok]; rfl)
    refine w_callV (As := [.ref 1, .int 1]) (rest := []) rfl rfl rfl (Nat.le_of_ble_eq_true rfl) (Nat.le_of_ble_eq_true rfl) (by first | exact Or.inl ⟨rfl, rfl⟩ | exact Or.inr ⟨rfl, rfl⟩) hc_71 ?_
    have hQ_74 : XQ s70 A (sd1 q) := hQ_72
    have hT_75 : XTo s70 T A := XTo_e (hf_73.1.1 3 (by decide)) hT
    have hX_76 : X13 s70 q.n q.c := X13_fr hf_73.1 (by decide) hX
    have hF_77 : FG [1, 13, 14, 15, 16, 17, 18, 19, 20] st s70 := FG.trans (FG.rf : FG [1, 13, 14, 15, 16, 17, 18, 19, 20] st st) (F1.fg hf_73 (by decide))
    refine w_blk 2 (pc' := 21) (ls' := [some (.ref 1), some (.ref 13), none, none]) (sk' := [.int 9, .ref 1]) (st' := s70) (fun _ h => h) ?_
    obtain ⟨s78, hc_79, hQ_80, hf_81⟩ := c_takeN9 (d + 0) T A (sd1 q) s70 hQ_74 hT_75
    refine w_callV (As := [.ref 1, .int 9]) (rest := []) rfl rfl rfl (Nat.le_of_ble_eq_true rfl) (Nat.le_of_ble_eq_true rfl) (by first | exact Or.inl ⟨rfl, rfl⟩ | exact Or.inr ⟨rfl, rfl⟩) hc_79 ?_
    have hQ_82 : XQ s78 A (sd2 T q) := hQ_80
    have hT_83 : XTo s78 T A := XTo_e (hf_81.1.1 3 (by decide)) hT_75
    have hX_84 : X13 s78 q.n q.c := X13_fr hf_81.1 (by decide) hX_76
    have hF_85 : FG [1, 13, 14, 15, 16, 17, 18, 19, 20] st s78 := FG.trans hF_77 (F1.fg hf_81 (by decide))
    refine w_blk 3 (pc' := 28) (ls' := [some (.ref 1), some (.ref 13), some (.int (nI (T (sd1 q).1))), none]) (sk' := [.int 106, .ref 1]) (st' := s78) (fun _ h => h) ?_
    obtain ⟨s86, hc_87, hQ_88, hf_89⟩ := c_takes (d + 1) T A (sd2 T q) 106 s78 hQ_82 hT_83 (by decide) (by decide)
    refine w_callV (As := [.ref 1, .int 106]) (rest := []) rfl rfl rfl (Nat.le_of_ble_eq_true rfl) (Nat.le_of_ble_eq_true rfl) (by first | exact Or.inl ⟨rfl, rfl⟩ | exact Or.inr ⟨rfl, rfl⟩) hc_87 ?_
    refine w_if_eq rfl (fun h7 => ?_) (fun h7 => ?_)
    · replace h7 := pI_eq0.mp h7
      refine w_blk 2 (pc' := 41) (ls' := [some (.ref 1), some (.ref 13), some (.int (nI (T (sd1 q).1))), none]) (sk' := [.int 107, .ref 1]) (st' := s86) (fun _ h => h) ?_
      have hsame : opt (decide (T (sd2 T q).1 = 106)) (sd2 T q) = sd2 T q := by
        rcases hz2 : (sd2 T q).2 with _ | _
        · exact opt_no (decide_eq_false (fun e => h7 ⟨hz2, e⟩))
        · exact opt_st hz2
      rw [hsame] at hQ_88
      obtain ⟨s90, hc_91, hQ_92, hf_93⟩ := c_takes (d + 1) T A (sd2 T q) 107 s86 hQ_88 (XTo_e (hf_89.1.1 3 (by decide)) hT_83) (by decide) (by decide)
      have hf12 := F1.trans hf_89 hf_93
      refine w_callV (As := [.ref 1, .int 107]) (rest := []) rfl rfl rfl (Nat.le_of_ble_eq_true rfl) (Nat.le_of_ble_eq_true rfl) (by first | exact Or.inl ⟨rfl, rfl⟩ | exact Or.inr ⟨rfl, rfl⟩) hc_91 ?_
      refine w_if_eq rfl (fun h8 => ?_) (fun h8 => ?_)
      · replace h8 := pI_eq0.mp h8
        refine w_blk 1 (pc' := 52) (ls' := [some (.ref 1), some (.ref 13), some (.int (nI (T (sd1 q).1))), none]) (sk' := [.int 0]) (st' := s90) (fun _ h => h) ?_
        have hsd3 : sd3 T q = sd2 T q := by
          rcases hz2 : (sd2 T q).2 with _ | _
          · exact opt_no (decide_eq_false (fun e => e.elim (fun e => h7 ⟨hz2, e⟩) (fun e => h8 ⟨hz2, e⟩)))
          · exact opt_st hz2
        have hsam2 : opt (decide (T (sd2 T q).1 = 107)) (sd2 T q) = sd2 T q := by
          rcases hz2 : (sd2 T q).2 with _ | _
          · exact opt_no (decide_eq_false (fun e => h8 ⟨hz2, e⟩))
          · exact opt_st hz2
        rw [hsam2] at hQ_92
        have hQ_94 : XQ s90 A (sd3 T q) := by rw [show sd3 T q = _ from hsd3]; exact hQ_92
        have hT_95 : XTo s90 T A := XTo_e (hf12.1.1 3 (by decide)) hT_83
        have hX_96 : X13 s90 q.n q.c := X13_fr hf12.1 (by decide) hX_84
        have hF_97 : FG [1, 13, 14, 15, 16, 17, 18, 19, 20] st s90 := FG.trans hF_85 (F1.fg hf12 (by decide))
        have hwm : (sd2 T q).2 = false → 0 = wm (T (sd2 T q).1) := fun hz2 => ((if_neg (fun e => h7 ⟨hz2, e⟩)).trans (if_neg (fun e => h8 ⟨hz2, e⟩))).symm
        refine w_blk 2 (pc' := 54) (ls' := [some (.ref 1), some (.ref 13), some (.int (nI (T (sd1 q).1))), some (.int 0)]) (sk' := [.ref 1]) (st' := s90) (fun _ h => h) ?_
        obtain ⟨s98, hc_99, hQ_100, hf_101⟩ := c_takeS (d + 0) T A (sd3 T q) s90 hQ_94 hT_95
        refine w_callV (As := [.ref 1]) (rest := []) rfl rfl rfl (Nat.le_of_ble_eq_true rfl) (Nat.le_of_ble_eq_true rfl) (by first | exact Or.inl ⟨rfl, rfl⟩ | exact Or.inr ⟨rfl, rfl⟩) hc_99 ?_
        replace hQ_100 : XQ s98 A (sd4 T q) := hQ_100
        have hX_102 : X13 s98 q.n q.c := X13_fr hf_101.1 (by decide) hX_96
        have hF_103 : FG [1, 13, 14, 15, 16, 17, 18, 19, 20] st s98 := FG.trans hF_97 (F1.fg hf_101 (by decide))
        refine w_blk 2 (pc' := 61) (ls' := [some (.ref 1), some (.ref 13), some (.int (nI (T (sd1 q).1))), some (.int 0)]) (sk' := [.int (s98.1 1 5)]) (st' := s98) (fun _ h => h) ?_
        rw [hQ_100.2.1]
        refine w_if_ne rfl (fun h2 => ?_) (fun h2 => ?_)
        · replace h2 := pI_ne.mp h2
          exact w_vret rfl rfl (hq s98 ⟨by rw [itm_pS eT]; exact hQ_100, fun h => absurd h (by rw [itm_pS eT, h2]; decide), hF_103⟩)
        · replace h2 := pI_eq0.mp (Decidable.not_not.mp h2)
          have hz : (sd4 T q).2 = false := Bool.eq_false_iff.mpr h2
          have hf9 := sd4_f hz
          have hwm2 := hwm hf9.2.2.2.2
          obtain ⟨s104, hc_105, hX_106, hf_107, h2_108⟩ := c_addS_13 (d + 1) q.n q.c (T (sd1 q).1) 0 s98 hX_102 hf9.2.1
          refine w_blk 3 (pc' := 67) (ls' := [some (.ref 1), some (.ref 13), some (.int (nI (T (sd1 q).1))), some (.int 0)]) (sk' := [.int 0, .int (nI (T (sd1 q).1)), .ref 13]) (st' := s98) (fun _ h => h) ?_
          refine w_callV (As := [.ref 13, .int (nI (T (sd1 q).1)), .int 0]) (rest := []) rfl rfl rfl (Nat.le_of_ble_eq_true rfl) (Nat.le_of_ble_eq_true rfl) (by first | exact Or.inl ⟨rfl, rfl⟩ | exact Or.inr ⟨rfl, rfl⟩) hc_105 ?_
          obtain ⟨g1, g2⟩ := itm_S eT hz
          have g3 : sdC T q = upd2 (upd2 q.c 3 (q.n 1) (T (sd1 q).1)) 4 (q.n 1) 0 := by unfold sdC; rw [← hwm2]
          exact w_vret rfl rfl (hq s104 ⟨by rw [itm_pS eT]; exact XQ_e (hf_107.1 1 (by decide)) hQ_100, fun _ => by rw [g1, g2, g3]; exact hX_106, FG.trans hF_103 (FG.fr hf_107 h2_108 (by decide) (by decide))⟩)
      · replace h8 := pI_ne.mp h8
        refine w_blk 2 (pc' := 52) (ls' := [some (.ref 1), some (.ref 13), some (.int (nI (T (sd1 q).1))), none]) (sk' := [.int 2]) (st' := s90) (fun _ h => h) ?_
        have hsd3 : sd3 T q = ((sd2 T q).1 + 1, (sd2 T q).2) := opt_go h8.1 (decide_eq_true (Or.inr h8.2))
        rw [opt_go h8.1 (decide_eq_true h8.2)] at hQ_92
        have hQ_109 : XQ s90 A (sd3 T q) := by rw [show sd3 T q = _ from hsd3]; exact hQ_92
        have hT_110 : XTo s90 T A := XTo_e (hf12.1.1 3 (by decide)) hT_83
        have hX_111 : X13 s90 q.n q.c := X13_fr hf12.1 (by decide) hX_84
        have hF_112 : FG [1, 13, 14, 15, 16, 17, 18, 19, 20] st s90 := FG.trans hF_85 (F1.fg hf12 (by decide))
        have hwm : (sd2 T q).2 = false → 2 = wm (T (sd2 T q).1) := fun hz2 => ((if_neg (by rw [h8.2]; decide)).trans (if_pos h8.2)).symm
        refine w_blk 2 (pc' := 54) (ls' := [some (.ref 1), some (.ref 13), some (.int (nI (T (sd1 q).1))), some (.int 2)]) (sk' := [.ref 1]) (st' := s90) (fun _ h => h) ?_
        obtain ⟨s113, hc_114, hQ_115, hf_116⟩ := c_takeS (d + 0) T A (sd3 T q) s90 hQ_109 hT_110
        refine w_callV (As := [.ref 1]) (rest := []) rfl rfl rfl (Nat.le_of_ble_eq_true rfl) (Nat.le_of_ble_eq_true rfl) (by first | exact Or.inl ⟨rfl, rfl⟩ | exact Or.inr ⟨rfl, rfl⟩) hc_114 ?_
        replace hQ_115 : XQ s113 A (sd4 T q) := hQ_115
        have hX_117 : X13 s113 q.n q.c := X13_fr hf_116.1 (by decide) hX_111
        have hF_118 : FG [1, 13, 14, 15, 16, 17, 18, 19, 20] st s113 := FG.trans hF_112 (F1.fg hf_116 (by decide))
        refine w_blk 2 (pc' := 61) (ls' := [some (.ref 1), some (.ref 13), some (.int (nI (T (sd1 q).1))), some (.int 2)]) (sk' := [.int (s113.1 1 5)]) (st' := s113) (fun _ h => h) ?_
        rw [hQ_115.2.1]
        refine w_if_ne rfl (fun h2 => ?_) (fun h2 => ?_)
        · replace h2 := pI_ne.mp h2
          exact w_vret rfl rfl (hq s113 ⟨by rw [itm_pS eT]; exact hQ_115, fun h => absurd h (by rw [itm_pS eT, h2]; decide), hF_118⟩)
        · replace h2 := pI_eq0.mp (Decidable.not_not.mp h2)
          have hz : (sd4 T q).2 = false := Bool.eq_false_iff.mpr h2
          have hf9 := sd4_f hz
          have hwm2 := hwm hf9.2.2.2.2
          obtain ⟨s119, hc_120, hX_121, hf_122, h2_123⟩ := c_addS_13 (d + 1) q.n q.c (T (sd1 q).1) 2 s113 hX_117 hf9.2.1
          refine w_blk 3 (pc' := 67) (ls' := [some (.ref 1), some (.ref 13), some (.int (nI (T (sd1 q).1))), some (.int 2)]) (sk' := [.int 2, .int (nI (T (sd1 q).1)), .ref 13]) (st' := s113) (fun _ h => h) ?_
          refine w_callV (As := [.ref 13, .int (nI (T (sd1 q).1)), .int 2]) (rest := []) rfl rfl rfl (Nat.le_of_ble_eq_true rfl) (Nat.le_of_ble_eq_true rfl) (by first | exact Or.inl ⟨rfl, rfl⟩ | exact Or.inr ⟨rfl, rfl⟩) hc_120 ?_
          obtain ⟨g1, g2⟩ := itm_S eT hz
          have g3 : sdC T q = upd2 (upd2 q.c 3 (q.n 1) (T (sd1 q).1)) 4 (q.n 1) 2 := by unfold sdC; rw [← hwm2]
          exact w_vret rfl rfl (hq s119 ⟨by rw [itm_pS eT]; exact XQ_e (hf_122.1 1 (by decide)) hQ_115, fun _ => by rw [g1, g2, g3]; exact hX_121, FG.trans hF_118 (FG.fr hf_122 h2_123 (by decide) (by decide))⟩)
    · replace h7 := pI_ne.mp h7
      refine w_blk 2 (pc' := 52) (ls' := [some (.ref 1), some (.ref 13), some (.int (nI (T (sd1 q).1))), none]) (sk' := [.int 1]) (st' := s86) (fun _ h => h) ?_
      have hsd3 : sd3 T q = ((sd2 T q).1 + 1, (sd2 T q).2) := opt_go h7.1 (decide_eq_true (Or.inl h7.2))
      rw [opt_go h7.1 (decide_eq_true h7.2)] at hQ_88
      have hQ_124 : XQ s86 A (sd3 T q) := by rw [show sd3 T q = _ from hsd3]; exact hQ_88
      have hT_125 : XTo s86 T A := XTo_e (hf_89.1.1 3 (by decide)) hT_83
      have hX_126 : X13 s86 q.n q.c := X13_fr hf_89.1 (by decide) hX_84
      have hF_127 : FG [1, 13, 14, 15, 16, 17, 18, 19, 20] st s86 := FG.trans hF_85 (F1.fg hf_89 (by decide))
      have hwm : (sd2 T q).2 = false → 1 = wm (T (sd2 T q).1) := fun hz2 => (if_pos h7.2).symm
      refine w_blk 2 (pc' := 54) (ls' := [some (.ref 1), some (.ref 13), some (.int (nI (T (sd1 q).1))), some (.int 1)]) (sk' := [.ref 1]) (st' := s86) (fun _ h => h) ?_
      obtain ⟨s128, hc_129, hQ_130, hf_131⟩ := c_takeS (d + 0) T A (sd3 T q) s86 hQ_124 hT_125
      refine w_callV (As := [.ref 1]) (rest := []) rfl rfl rfl (Nat.le_of_ble_eq_true rfl) (Nat.le_of_ble_eq_true rfl) (by first | exact Or.inl ⟨rfl, rfl⟩ | exact Or.inr ⟨rfl, rfl⟩) hc_129 ?_
      replace hQ_130 : XQ s128 A (sd4 T q) := hQ_130
      have hX_132 : X13 s128 q.n q.c := X13_fr hf_131.1 (by decide) hX_126
      have hF_133 : FG [1, 13, 14, 15, 16, 17, 18, 19, 20] st s128 := FG.trans hF_127 (F1.fg hf_131 (by decide))
      refine w_blk 2 (pc' := 61) (ls' := [some (.ref 1), some (.ref 13), some (.int (nI (T (sd1 q).1))), some (.int 1)]) (sk' := [.int (s128.1 1 5)]) (st' := s128) (fun _ h => h) ?_
      rw [hQ_130.2.1]
      refine w_if_ne rfl (fun h2 => ?_) (fun h2 => ?_)
      · replace h2 := pI_ne.mp h2
        exact w_vret rfl rfl (hq s128 ⟨by rw [itm_pS eT]; exact hQ_130, fun h => absurd h (by rw [itm_pS eT, h2]; decide), hF_133⟩)
      · replace h2 := pI_eq0.mp (Decidable.not_not.mp h2)
        have hz : (sd4 T q).2 = false := Bool.eq_false_iff.mpr h2
        have hf9 := sd4_f hz
        have hwm2 := hwm hf9.2.2.2.2
        obtain ⟨s134, hc_135, hX_136, hf_137, h2_138⟩ := c_addS_13 (d + 1) q.n q.c (T (sd1 q).1) 1 s128 hX_132 hf9.2.1
        refine w_blk 3 (pc' := 67) (ls' := [some (.ref 1), some (.ref 13), some (.int (nI (T (sd1 q).1))), some (.int 1)]) (sk' := [.int 1, .int (nI (T (sd1 q).1)), .ref 13]) (st' := s128) (fun _ h => h) ?_
        refine w_callV (As := [.ref 13, .int (nI (T (sd1 q).1)), .int 1]) (rest := []) rfl rfl rfl (Nat.le_of_ble_eq_true rfl) (Nat.le_of_ble_eq_true rfl) (by first | exact Or.inl ⟨rfl, rfl⟩ | exact Or.inr ⟨rfl, rfl⟩) hc_135 ?_
        obtain ⟨g1, g2⟩ := itm_S eT hz
        have g3 : sdC T q = upd2 (upd2 q.c 3 (q.n 1) (T (sd1 q).1)) 4 (q.n 1) 1 := by unfold sdC; rw [← hwm2]
        exact w_vret rfl rfl (hq s134 ⟨by rw [itm_pS eT]; exact XQ_e (hf_137.1 1 (by decide)) hQ_130, fun _ => by rw [g1, g2, g3]; exact hX_136, FG.trans hF_133 (FG.fr hf_137 h2_138 (by decide) (by decide))⟩)
set_option maxHeartbeats 4000000 in
set_option maxRecDepth 20000 in
/-- readY -/
theorem c_readY_13 (d : Nat) (T : Nat → Nat) (A : Nat) (q : RQ) (st : mSt) (hQ : XQ st A q.p) (hT : XTo st T A) (hqf : q.p.2 = false) (eT : T q.p.1 = 105) (hX : X13 st q.n q.c) (hB : CB q.n q.c) : ∃ (s : mSt), mMC mT (d + 4) 65 [.ref 1, .ref 13] st (none) s ∧ XQ s A (itm T q).p ∧ ((itm T q).p.2 = false → X13 s (itm T q).n (itm T q).c) ∧ FG [1, 13, 14, 15, 16, 17, 18, 19, 20] st s := by
  suffices H : ∀ Q : Option Value → mSt → Prop, (∀ (s : mSt), (XQ s A (itm T q).p ∧ ((itm T q).p.2 = false → X13 s (itm T q).n (itm T q).c) ∧ FG [1, 13, 14, 15, 16, 17, 18, 19, 20] st s) → Q (none) s) → mW (mMC mT (d + 3)) (0, fun _ => 0) (mAtL P_X7_readYard) none Q 0 [some (.ref 1), some (.ref 13), none, none] [] st by
    obtain ⟨_, _, ⟨s, rfl, rfl, hp⟩, hw⟩ := mW_ex (H (fun vv tt => ∃ (s : mSt),  vv = none ∧ s = tt ∧ XQ s A (itm T q).p ∧ ((itm T q).p.2 = false → X13 s (itm T q).n (itm T q).c) ∧ FG [1, 13, 14, 15, 16, 17, 18, 19, 20] st s) (fun s hp => ⟨s, rfl, rfl, hp⟩))
    exact ⟨s, mI_X7_readYard (d := d + 3) (Nat.le_of_ble_eq_true rfl) hw, hp⟩
  intro Q hq
  obtain ⟨hb0, hb1, hb2, -⟩ := id hB
  have hA := XQ_ne hQ hT (by rw [eT]; decide)
  refine w_blk 3 (pc' := 5) (ls' := [some (.ref 1), some (.ref 13), none, none]) (sk' := [.int (st.1 13 2), .ref 1]) (st' := st) (fun _ h => h) ?_
  rw [hX.2.2.1]
  refine w_blk 1 (pc' := 7) (ls' := [some (.ref 1), some (.ref 13), none, none]) (sk' := [.int 8, .int (nI (q.n 2)), .ref 1]) (st' := st) (fun _ h => h) ?_
  refine w_cmp_ge rfl (fun h1 => ?_) (fun h1 => ?_)
  · replace h1 : 8 ≤ q.n 2 := (nI_leI (a := 8) (b := (q.n 2)) (by omega) (by omega)).mp h1
    refine w_blk 1 (pc' := 15) (ls' := [some (.ref 1), some (.ref 13), none, none]) (sk' := [.int 0, .ref 1]) (st' := st) (fun _ h => h) ?_
    have hok : decide (q.n 2 < 8) = false := decide_eq_false (by omega)
    obtain ⟨s1, hc_2, hQ_3, hf_4⟩ := c_takeWord (d + 2) A q.p (decide (q.n 2 < 8)) 0 st hQ hqf hA (by rw [hok]; rfl)
    refine w_callV (As := [.ref 1, .int 0]) (rest := []) rfl rfl rfl (Nat.le_of_ble_eq_true rfl) (Nat.le_of_ble_eq_true rfl) (by first | exact Or.inl ⟨rfl, rfl⟩ | exact Or.inr ⟨rfl, rfl⟩) hc_2 ?_
    have hQ_5 : XQ s1 A (yd1 q) := hQ_3
    have hT_6 : XTo s1 T A := XTo_e (hf_4.1.1 3 (by decide)) hT
    have hX_7 : X13 s1 q.n q.c := X13_fr hf_4.1 (by decide) hX
    have hF_8 : FG [1, 13, 14, 15, 16, 17, 18, 19, 20] st s1 := FG.trans (FG.rf : FG [1, 13, 14, 15, 16, 17, 18, 19, 20] st st) (F1.fg hf_4 (by decide))
    refine w_blk 2 (pc' := 21) (ls' := [some (.ref 1), some (.ref 13), none, none]) (sk' := [.int 99, .ref 1]) (st' := s1) (fun _ h => h) ?_
    obtain ⟨s9, hc_10, hQ_11, hf_12⟩ := c_takeN99 (d + 0) T A (yd1 q) s1 hQ_5 hT_6
    refine w_callV (As := [.ref 1, .int 99]) (rest := []) rfl rfl rfl (Nat.le_of_ble_eq_true rfl) (Nat.le_of_ble_eq_true rfl) (by first | exact Or.inl ⟨rfl, rfl⟩ | exact Or.inr ⟨rfl, rfl⟩) hc_10 ?_
    have hQ_13 : XQ s9 A (yd2 T q) := hQ_11
    have hT_14 : XTo s9 T A := XTo_e (hf_12.1.1 3 (by decide)) hT_6
    have hX_15 : X13 s9 q.n q.c := X13_fr hf_12.1 (by decide) hX_7
    have hF_16 : FG [1, 13, 14, 15, 16, 17, 18, 19, 20] st s9 := FG.trans hF_8 (F1.fg hf_12 (by decide))
    refine w_blk 3 (pc' := 28) (ls' := [some (.ref 1), some (.ref 13), some (.int (nI (T (yd1 q).1))), none]) (sk' := [.int 9, .ref 1]) (st' := s9) (fun _ h => h) ?_
    obtain ⟨s17, hc_18, hQ_19, hf_20⟩ := c_takeN9 (d + 0) T A (yd2 T q) s9 hQ_13 hT_14
    refine w_callV (As := [.ref 1, .int 9]) (rest := []) rfl rfl rfl (Nat.le_of_ble_eq_true rfl) (Nat.le_of_ble_eq_true rfl) (by first | exact Or.inl ⟨rfl, rfl⟩ | exact Or.inr ⟨rfl, rfl⟩) hc_18 ?_
    have hQ_21 : XQ s17 A (yd3 T q) := hQ_19
    have hT_22 : XTo s17 T A := XTo_e (hf_20.1.1 3 (by decide)) hT_14
    have hX_23 : X13 s17 q.n q.c := X13_fr hf_20.1 (by decide) hX_15
    have hF_24 : FG [1, 13, 14, 15, 16, 17, 18, 19, 20] st s17 := FG.trans hF_16 (F1.fg hf_20 (by decide))
    refine w_blk 2 (pc' := 33) (ls' := [some (.ref 1), some (.ref 13), some (.int (nI (T (yd1 q).1))), some (.int (nI (T (yd2 T q).1)))]) (sk' := [.ref 1]) (st' := s17) (fun _ h => h) ?_
    obtain ⟨s25, hc_26, hQ_27, hf_28⟩ := c_takeS (d + 0) T A (yd3 T q) s17 hQ_21 hT_22
    refine w_callV (As := [.ref 1]) (rest := []) rfl rfl rfl (Nat.le_of_ble_eq_true rfl) (Nat.le_of_ble_eq_true rfl) (by first | exact Or.inl ⟨rfl, rfl⟩ | exact Or.inr ⟨rfl, rfl⟩) hc_26 ?_
    have hQ_29 : XQ s25 A (yd4 T q) := hQ_27
    have hT_30 : XTo s25 T A := XTo_e (hf_28.1.1 3 (by decide)) hT_22
    have hX_31 : X13 s25 q.n q.c := X13_fr hf_28.1 (by decide) hX_23
    have hF_32 : FG [1, 13, 14, 15, 16, 17, 18, 19, 20] st s25 := FG.trans hF_24 (F1.fg hf_28 (by decide))
    refine w_blk 2 (pc' := 40) (ls' := [some (.ref 1), some (.ref 13), some (.int (nI (T (yd1 q).1))), some (.int (nI (T (yd2 T q).1)))]) (sk' := [.int (s25.1 1 5)]) (st' := s25) (fun _ h => h) ?_
    rw [hQ_29.2.1]
    refine w_if_ne rfl (fun h2 => ?_) (fun h2 => ?_)
    · replace h2 := pI_ne.mp h2
      exact w_vret rfl rfl (hq s25 ⟨by rw [itm_pY eT]; exact hQ_29, fun h => absurd h (by rw [itm_pY eT, h2]; decide), hF_32⟩)
    · replace h2 := pI_eq0.mp (Decidable.not_not.mp h2)
      have hz : (yd4 T q).2 = false := Bool.eq_false_iff.mpr h2
      have hf9 := yd4_f hz
      obtain ⟨s33, hc_34, hX_35, hf_36, h2_37⟩ := c_addY_13 (d + 1) q.n q.c (T (yd1 q).1) (T (yd2 T q).1) s25 hX_31 hf9.2.1
      refine w_blk 3 (pc' := 46) (ls' := [some (.ref 1), some (.ref 13), some (.int (nI (T (yd1 q).1))), some (.int (nI (T (yd2 T q).1)))]) (sk' := [.int (nI (T (yd2 T q).1)), .int (nI (T (yd1 q).1)), .ref 13]) (st' := s25) (fun _ h => h) ?_
      refine w_callV (As := [.ref 13, .int (nI (T (yd1 q).1)), .int (nI (T (yd2 T q).1))]) (rest := []) rfl rfl rfl (Nat.le_of_ble_eq_true rfl) (Nat.le_of_ble_eq_true rfl) (by first | exact Or.inl ⟨rfl, rfl⟩ | exact Or.inr ⟨rfl, rfl⟩) hc_34 ?_
      obtain ⟨g1, g2⟩ := itm_Y eT hz
      exact w_vret rfl rfl (hq s33 ⟨by rw [itm_pY eT]; exact XQ_e (hf_36.1 1 (by decide)) hQ_29, fun _ => by rw [g1, g2]; exact hX_35, FG.trans hF_32 (FG.fr hf_36 h2_37 (by decide) (by decide))⟩)
  · replace h1 : ¬ (8 ≤ q.n 2) := fun hh => h1 ((nI_leI (a := 8) (b := (q.n 2)) (by omega) (by omega)).mpr hh)
    refine w_blk 2 (pc' := 15) (ls' := [some (.ref 1), some (.ref 13), none, none]) (sk' := [.int 1, .ref 1]) (st' := st) (fun _ h => h) ?_
    have hok : decide (q.n 2 < 8) = true := decide_eq_true (by omega)
    obtain ⟨s38, hc_39, hQ_40, hf_41⟩ := c_takeWord (d + 2) A q.p (decide (q.n 2 < 8)) 1 st hQ hqf hA (by rw [hok]; rfl)
    refine w_callV (As := [.ref 1, .int 1]) (rest := []) rfl rfl rfl (Nat.le_of_ble_eq_true rfl) (Nat.le_of_ble_eq_true rfl) (by first | exact Or.inl ⟨rfl, rfl⟩ | exact Or.inr ⟨rfl, rfl⟩) hc_39 ?_
    have hQ_42 : XQ s38 A (yd1 q) := hQ_40
    have hT_43 : XTo s38 T A := XTo_e (hf_41.1.1 3 (by decide)) hT
    have hX_44 : X13 s38 q.n q.c := X13_fr hf_41.1 (by decide) hX
    have hF_45 : FG [1, 13, 14, 15, 16, 17, 18, 19, 20] st s38 := FG.trans (FG.rf : FG [1, 13, 14, 15, 16, 17, 18, 19, 20] st st) (F1.fg hf_41 (by decide))
    refine w_blk 2 (pc' := 21) (ls' := [some (.ref 1), some (.ref 13), none, none]) (sk' := [.int 99, .ref 1]) (st' := s38) (fun _ h => h) ?_
    obtain ⟨s46, hc_47, hQ_48, hf_49⟩ := c_takeN99 (d + 0) T A (yd1 q) s38 hQ_42 hT_43
    refine w_callV (As := [.ref 1, .int 99]) (rest := []) rfl rfl rfl (Nat.le_of_ble_eq_true rfl) (Nat.le_of_ble_eq_true rfl) (by first | exact Or.inl ⟨rfl, rfl⟩ | exact Or.inr ⟨rfl, rfl⟩) hc_47 ?_
    have hQ_50 : XQ s46 A (yd2 T q) := hQ_48
    have hT_51 : XTo s46 T A := XTo_e (hf_49.1.1 3 (by decide)) hT_43
    have hX_52 : X13 s46 q.n q.c := X13_fr hf_49.1 (by decide) hX_44
    have hF_53 : FG [1, 13, 14, 15, 16, 17, 18, 19, 20] st s46 := FG.trans hF_45 (F1.fg hf_49 (by decide))
    refine w_blk 3 (pc' := 28) (ls' := [some (.ref 1), some (.ref 13), some (.int (nI (T (yd1 q).1))), none]) (sk' := [.int 9, .ref 1]) (st' := s46) (fun _ h => h) ?_
    obtain ⟨s54, hc_55, hQ_56, hf_57⟩ := c_takeN9 (d + 0) T A (yd2 T q) s46 hQ_50 hT_51
    refine w_callV (As := [.ref 1, .int 9]) (rest := []) rfl rfl rfl (Nat.le_of_ble_eq_true rfl) (Nat.le_of_ble_eq_true rfl) (by first | exact Or.inl ⟨rfl, rfl⟩ | exact Or.inr ⟨rfl, rfl⟩) hc_55 ?_
    have hQ_58 : XQ s54 A (yd3 T q) := hQ_56
    have hT_59 : XTo s54 T A := XTo_e (hf_57.1.1 3 (by decide)) hT_51
    have hX_60 : X13 s54 q.n q.c := X13_fr hf_57.1 (by decide) hX_52
    have hF_61 : FG [1, 13, 14, 15, 16, 17, 18, 19, 20] st s54 := FG.trans hF_53 (F1.fg hf_57 (by decide))
    refine w_blk 2 (pc' := 33) (ls' := [some (.ref 1), some (.ref 13), some (.int (nI (T (yd1 q).1))), some (.int (nI (T (yd2 T q).1)))]) (sk' := [.ref 1]) (st' := s54) (fun _ h => h) ?_
    obtain ⟨s62, hc_63, hQ_64, hf_65⟩ := c_takeS (d + 0) T A (yd3 T q) s54 hQ_58 hT_59
    refine w_callV (As := [.ref 1]) (rest := []) rfl rfl rfl (Nat.le_of_ble_eq_true rfl) (Nat.le_of_ble_eq_true rfl) (by first | exact Or.inl ⟨rfl, rfl⟩ | exact Or.inr ⟨rfl, rfl⟩) hc_63 ?_
    have hQ_66 : XQ s62 A (yd4 T q) := hQ_64
    have hT_67 : XTo s62 T A := XTo_e (hf_65.1.1 3 (by decide)) hT_59
    have hX_68 : X13 s62 q.n q.c := X13_fr hf_65.1 (by decide) hX_60
    have hF_69 : FG [1, 13, 14, 15, 16, 17, 18, 19, 20] st s62 := FG.trans hF_61 (F1.fg hf_65 (by decide))
    refine w_blk 2 (pc' := 40) (ls' := [some (.ref 1), some (.ref 13), some (.int (nI (T (yd1 q).1))), some (.int (nI (T (yd2 T q).1)))]) (sk' := [.int (s62.1 1 5)]) (st' := s62) (fun _ h => h) ?_
    rw [hQ_66.2.1]
    refine w_if_ne rfl (fun h2 => ?_) (fun h2 => ?_)
    · replace h2 := pI_ne.mp h2
      exact w_vret rfl rfl (hq s62 ⟨by rw [itm_pY eT]; exact hQ_66, fun h => absurd h (by rw [itm_pY eT, h2]; decide), hF_69⟩)
    · replace h2 := pI_eq0.mp (Decidable.not_not.mp h2)
      have hz : (yd4 T q).2 = false := Bool.eq_false_iff.mpr h2
      have hf9 := yd4_f hz
      obtain ⟨s70, hc_71, hX_72, hf_73, h2_74⟩ := c_addY_13 (d + 1) q.n q.c (T (yd1 q).1) (T (yd2 T q).1) s62 hX_68 hf9.2.1
      refine w_blk 3 (pc' := 46) (ls' := [some (.ref 1), some (.ref 13), some (.int (nI (T (yd1 q).1))), some (.int (nI (T (yd2 T q).1)))]) (sk' := [.int (nI (T (yd2 T q).1)), .int (nI (T (yd1 q).1)), .ref 13]) (st' := s62) (fun _ h => h) ?_
      refine w_callV (As := [.ref 13, .int (nI (T (yd1 q).1)), .int (nI (T (yd2 T q).1))]) (rest := []) rfl rfl rfl (Nat.le_of_ble_eq_true rfl) (Nat.le_of_ble_eq_true rfl) (by first | exact Or.inl ⟨rfl, rfl⟩ | exact Or.inr ⟨rfl, rfl⟩) hc_71 ?_
      obtain ⟨g1, g2⟩ := itm_Y eT hz
      exact w_vret rfl rfl (hq s70 ⟨by rw [itm_pY eT]; exact XQ_e (hf_73.1 1 (by decide)) hQ_66, fun _ => by rw [g1, g2]; exact hX_72, FG.trans hF_69 (FG.fr hf_73 h2_74 (by decide) (by decide))⟩)
set_option maxRecDepth 20000 in
/-- readItem -/
theorem c_readItem_13 (d : Nat) (T : Nat → Nat) (A : Nat) (q : RQ) (st : mSt) (hQ : XQ st A q.p) (hT : XTo st T A) (hqf : q.p.2 = false) (hX : X13 st q.n q.c) (hB : CB q.n q.c) : ∃ (s : mSt), mMC mT (d + 5) 62 [.ref 1, .ref 13] st (none) s ∧ XQ s A (itm T q).p ∧ ((itm T q).p.2 = false → X13 s (itm T q).n (itm T q).c) ∧ FG [1, 13, 14, 15, 16, 17, 18, 19, 20] st s := by
  suffices H : ∀ Q : Option Value → mSt → Prop, (∀ (s : mSt), (XQ s A (itm T q).p ∧ ((itm T q).p.2 = false → X13 s (itm T q).n (itm T q).c) ∧ FG [1, 13, 14, 15, 16, 17, 18, 19, 20] st s) → Q (none) s) → mW (mMC mT (d + 4)) (0, fun _ => 0) (mAtL P_X7_readItem) none Q 0 [some (.ref 1), some (.ref 13)] [] st by
    obtain ⟨_, _, ⟨s, rfl, rfl, hp⟩, hw⟩ := mW_ex (H (fun vv tt => ∃ (s : mSt),  vv = none ∧ s = tt ∧ XQ s A (itm T q).p ∧ ((itm T q).p.2 = false → X13 s (itm T q).n (itm T q).c) ∧ FG [1, 13, 14, 15, 16, 17, 18, 19, 20] st s) (fun s hp => ⟨s, rfl, rfl, hp⟩))
    exact ⟨s, mI_X7_readItem (d := d + 4) (Nat.le_of_ble_eq_true rfl) hw, hp⟩
  intro Q hq
  have hQk := XQ_tok hQ hT
  have hT7 := hT.2.2.1 q.p.1
  have hA3 := hT.1
  have hqA := hQ.2.2
  refine w_blk 4 (pc' := 8) (ls' := [some (.ref 1), some (.ref 13)]) (sk' := [.int (st.1 1 4), .ref 3]) (st' := st) (fun _ h => h) ?_
  rw [hQ.1]
  refine w_callS (As := [.ref 3, .int (nI q.p.1)]) (rest := []) rfl rfl rfl (Nat.le_of_ble_eq_true rfl) (Nat.le_of_ble_eq_true rfl) (c_cellK (d + 3) 3 301 q.p.1 st (by omega) (by decide) rfl) ?_
  rw [hQk]
  by_cases eD : T q.p.1 = 103
  · rw [eD]
    refine w_tblIn (o := 25) (t := 36) rfl (by decide) (by decide) rfl rfl ?_
    obtain ⟨s1, hc, hp1⟩ := c_readD_13 (d + 0) T A q st hQ hT hqf eD hX hB
    refine w_blk 2 (pc' := 38) (ls' := [some (.ref 1), some (.ref 13)]) (sk' := [.ref 13, .ref 1]) (st' := st) (fun _ h => h) ?_
    refine w_callV (As := [.ref 1, .ref 13]) (rest := []) rfl rfl rfl (Nat.le_of_ble_eq_true rfl) (Nat.le_of_ble_eq_true rfl) (by first | exact Or.inl ⟨rfl, rfl⟩ | exact Or.inr ⟨rfl, rfl⟩) hc ?_
    refine w_blk 1 (pc' := 65) (ls' := [some (.ref 1), some (.ref 13)]) (sk' := []) (st' := s1) (fun _ h => h) ?_
    exact w_vret rfl rfl (hq s1 hp1)
  · by_cases eS : T q.p.1 = 104
    · rw [eS]
      refine w_tblIn (o := 33) (t := 44) rfl (by decide) (by decide) rfl rfl ?_
      obtain ⟨s1, hc, hp1⟩ := c_readS_13 (d + 0) T A q st hQ hT hqf eS hX hB
      refine w_blk 2 (pc' := 46) (ls' := [some (.ref 1), some (.ref 13)]) (sk' := [.ref 13, .ref 1]) (st' := st) (fun _ h => h) ?_
      refine w_callV (As := [.ref 1, .ref 13]) (rest := []) rfl rfl rfl (Nat.le_of_ble_eq_true rfl) (Nat.le_of_ble_eq_true rfl) (by first | exact Or.inl ⟨rfl, rfl⟩ | exact Or.inr ⟨rfl, rfl⟩) hc ?_
      refine w_blk 1 (pc' := 65) (ls' := [some (.ref 1), some (.ref 13)]) (sk' := []) (st' := s1) (fun _ h => h) ?_
      exact w_vret rfl rfl (hq s1 hp1)
    · by_cases eY : T q.p.1 = 105
      · rw [eY]
        refine w_tblIn (o := 41) (t := 52) rfl (by decide) (by decide) rfl rfl ?_
        obtain ⟨s1, hc, hp1⟩ := c_readY_13 (d + 0) T A q st hQ hT hqf eY hX hB
        refine w_blk 2 (pc' := 54) (ls' := [some (.ref 1), some (.ref 13)]) (sk' := [.ref 13, .ref 1]) (st' := st) (fun _ h => h) ?_
        refine w_callV (As := [.ref 1, .ref 13]) (rest := []) rfl rfl rfl (Nat.le_of_ble_eq_true rfl) (Nat.le_of_ble_eq_true rfl) (by first | exact Or.inl ⟨rfl, rfl⟩ | exact Or.inr ⟨rfl, rfl⟩) hc ?_
        refine w_blk 1 (pc' := 65) (ls' := [some (.ref 1), some (.ref 13)]) (sk' := []) (st' := s1) (fun _ h => h) ?_
        exact w_vret rfl rfl (hq s1 hp1)
      · refine w_tblOut (t := 60) rfl (by rw [nI_toInt (show T q.p.1 < 2 ^ 31 by omega)]; omega) rfl ?_
        refine w_blk 2 (pc' := 62) (ls' := [some (.ref 1), some (.ref 13)]) (sk' := [.int 1, .ref 1]) (st' := st) (fun _ h => h) ?_
        refine w_putZ rfl rfl rfl (Or.inr rfl) ?_
        have hit := itm_pN (T := T) (q := q) ⟨eD, eS, eY⟩
        exact w_vret rfl rfl (hq ((mU st.1 1 5 1), st.2) ⟨by rw [hit]; exact XQ_no hQ, fun h => absurd h (by rw [hit]; exact fun e => Bool.noConfusion e), (F1.w F1.rf (by decide)).fg (by decide)⟩)
set_option maxRecDepth 20000 in
/-- empty() -/
theorem c_empty_13 (d : Nat) (st : mSt) : mMC mT (d + 1) 19 [.ref 13] st (none) ((mU (mU (mU st.1 13 0 0) 13 1 0) 13 2 0), st.2) := by
  refine mI_X1_empty (d := d + 0) (Nat.le_of_ble_eq_true rfl) (fun Q hq => ?_)
  show mW (mMC mT (d + 0)) (0, fun _ => 0) (mAtL P_X1_empty) none Q 0 [some (.ref 13)] [] st
  refine w_blk 9 (pc' := 15) (ls' := [some (.ref 13)]) (sk' := []) (st' := ((mU (mU (mU st.1 13 0 0) 13 1 0) 13 2 0), st.2)) (fun _ h => h) ?_
  exact w_vret rfl rfl hq
set_option maxRecDepth 20000 in
/-- readInto(crew) -/
theorem c_readInto_13 (d : Nat) (L : Nat) (b : Nat → Nat) (st : mSt) (hP : XS st L b) (hb : ∀ j, j < L → b j < 256) (hL : L ≤ 300) : ∃ (q : RQ) (s : mSt), mMC mT (d + 9) 61 [.ref 1, .ref 13] st (some (.int (rI b L q))) s ∧ RDR (TT b L) q ∧ (q.p.2 = false → X13 s q.n q.c) ∧ FG [1, 3, 4, 13, 14, 15, 16, 17, 18, 19, 20] st s := by
  suffices H : ∀ Q : Option Value → mSt → Prop, (∀ (q : RQ) (s : mSt), (RDR (TT b L) q ∧ (q.p.2 = false → X13 s q.n q.c) ∧ FG [1, 3, 4, 13, 14, 15, 16, 17, 18, 19, 20] st s) → Q (some (.int (rI b L q))) s) → mW (mMC mT (d + 8)) (0, fun _ => 0) (mAtL P_X7_readInto) (some .int) Q 0 [some (.ref 1), some (.ref 13), none] [] st by
    obtain ⟨_, _, ⟨q, s, rfl, rfl, hp⟩, hw⟩ := mW_ex (H (fun vv tt => ∃ (q : RQ) (s : mSt),  vv = some (.int (rI b L q)) ∧ s = tt ∧ RDR (TT b L) q ∧ (q.p.2 = false → X13 s q.n q.c) ∧ FG [1, 3, 4, 13, 14, 15, 16, 17, 18, 19, 20] st s) (fun q s hp => ⟨q, s, rfl, rfl, hp⟩))
    exact ⟨q, s, mI_X7_readInto (d := d + 8) (Nat.le_of_ble_eq_true rfl) hw, hp⟩
  intro Q hq
  obtain ⟨A, s1, hc1, hA3, hTA, htk, hf1, h21⟩ := c_cut (d + 0) L b st hP hb hL
  refine w_blk 1 (pc' := 1) (ls' := [some (.ref 1), some (.ref 13), none]) (sk' := [.ref 1]) (st' := st) (fun _ h => h) ?_
  refine w_callV (As := [.ref 1]) (rest := []) rfl rfl rfl (Nat.le_of_ble_eq_true rfl) (Nat.le_of_ble_eq_true rfl) (by first | exact Or.inl ⟨rfl, rfl⟩ | exact Or.inr ⟨rfl, rfl⟩) hc1 ?_
  refine w_blk 1 (pc' := 5) (ls' := [some (.ref 1), some (.ref 13), none]) (sk' := [.ref 13]) (st' := s1) (fun _ h => h) ?_
  refine w_callV (As := [.ref 13]) (rest := []) rfl rfl rfl (Nat.le_of_ble_eq_true rfl) (Nat.le_of_ble_eq_true rfl) (by first | exact Or.inl ⟨rfl, rfl⟩ | exact Or.inr ⟨rfl, rfl⟩) (c_empty_13 (d + 7) s1) ?_
  refine w_blk 5 (pc' := 15) (ls' := [some (.ref 1), some (.ref 13), none]) (sk' := [.int 0, .ref 1]) (st' := ((mU (mU (mU (mU s1.1 13 0 0) 13 1 0) 13 2 0) 1 4 0), s1.2)) (fun _ h => h) ?_
  refine w_putZ rfl rfl rfl (Or.inl rfl) ?_
  refine w_blk 2 (pc' := 20) (ls' := [some (.ref 1), some (.ref 13), some (.int 0)]) (sk' := []) (st' := ((mU (mU (mU (mU (mU s1.1 13 0 0) 13 1 0) 13 2 0) 1 4 0) 1 5 0), s1.2)) (fun _ h => h) ?_
  have keyE : ∀ (q : RQ) (m : Nat) (s0 : mSt), RDR (TT b L) q → XQ s0 A q.p → (∀ k, k ≤ A → s0.1 4 k = nI (ps b L k)) → (q.p.2 = false → X13 s0 q.n q.c) → FG [1, 3, 4, 13, 14, 15, 16, 17, 18, 19, 20] st s0 → mW (mMC mT (d + 8)) (0, fun _ => 0) (mAtL P_X7_readInto) (some .int) Q 61 [some (.ref 1), some (.ref 13), some (.int (nI m))] [] s0 := by
    intro q m s0 hrd hQ hst hX hf
    have hqA := hQ.2.2
    have hsq := hst q.p.1 hqA
    have hqq := hq q s0
    by_cases hf2 : q.p.2 = true
    · rw [show rI b L q = nI (ps b L q.p.1) from if_pos hf2] at hqq
      refine w_blk 2 (pc' := 65) (ls' := [some (.ref 1), some (.ref 13), some (.int (nI m))]) (sk' := [.int (s0.1 1 5)]) (st' := s0) (fun _ h => h) ?_
      rw [hQ.2.1.trans (pI_t hf2)]
      refine w_if_eq rfl (fun hno => absurd hno (by decide)) (fun _ => ?_)
      refine w_blk 4 (pc' := 76) (ls' := [some (.ref 1), some (.ref 13), some (.int (nI m))]) (sk' := [.int (s0.1 1 4), .ref 4]) (st' := s0) (fun _ h => h) ?_
      rw [hQ.1]
      refine w_callS (As := [.ref 4, .int (nI q.p.1)]) (rest := []) rfl rfl rfl (Nat.le_of_ble_eq_true rfl) (Nat.le_of_ble_eq_true rfl) (c_cellK (d + 7) 4 301 q.p.1 s0 (by omega) (by decide) rfl) ?_
      rw [hsq]
      refine w_blk 1 (pc' := 83) (ls' := [some (.ref 1), some (.ref 13), some (.int (nI m))]) (sk' := [.int (nI (ps b L q.p.1))]) (st' := s0) (fun _ h => h) ?_
      exact w_iret rfl rfl rfl (hqq ⟨hrd, hX, hf⟩)
    · rw [show rI b L q = -1 from if_neg hf2] at hqq
      refine w_blk 2 (pc' := 65) (ls' := [some (.ref 1), some (.ref 13), some (.int (nI m))]) (sk' := [.int (s0.1 1 5)]) (st' := s0) (fun _ h => h) ?_
      rw [hQ.2.1.trans (pI_f hf2)]
      refine w_if_eq rfl (fun _ => ?_) (fun hno => absurd rfl hno)
      refine w_blk 1 (pc' := 83) (ls' := [some (.ref 1), some (.ref 13), some (.int (nI m))]) (sk' := [.int (-1)]) (st' := s0) (fun _ h => h) ?_
      exact w_iret rfl rfl rfl (hqq ⟨hrd, hX, hf⟩)
  have hTT : XTo ((mU (mU (mU (mU (mU s1.1 13 0 0) 13 1 0) 13 2 0) 1 4 0) 1 5 0), s1.2) (TT b L) A := ⟨hA3, hTA, fun k => (TT_r b L k).1, fun k hk => (htk k hk).1⟩
  have hF2 : FG [1, 3, 4, 13, 14, 15, 16, 17, 18, 19, 20] st ((mU (mU (mU (mU (mU s1.1 13 0 0) 13 1 0) 13 2 0) 1 4 0) 1 5 0), s1.2) := by
    refine ⟨?_, fun j hj => ?_, h21⟩
    · exact Fr.trans (Fr.mono hf1 (by decide)) (Fr.trans (Fr.trans (Fr.trans (Fr.trans (Fr.mU (by decide)) (Fr.mU (by decide))) (Fr.mU (by decide))) (Fr.mU (by decide))) (Fr.mU (by decide)))
    · have h9 : Fk 1 [4, 5] s1 ((mU (mU (mU (mU (mU s1.1 13 0 0) 13 1 0) 13 2 0) 1 4 0) 1 5 0), s1.2) := Fk.trans (Fk.trans (Fk.trans (Fk.trans (Fk.wn (by decide)) (Fk.wn (by decide))) (Fk.wn (by decide))) (Fk.wr (by decide))) (Fk.wr (by decide))
      exact (h9 j hj).trans (by rw [hf1.1 1 (by decide)])
  suffices key : ∀ (f m : Nat) (s0 : mSt), m + f = 301 → (∀ j, j < m → ¬ stopQ (TT b L) (rd (TT b L) j)) → XQ s0 A (rd (TT b L) m).p → XTo s0 (TT b L) A → (∀ k, k ≤ A → s0.1 4 k = nI (ps b L k)) → ((rd (TT b L) m).p.2 = false → X13 s0 (rd (TT b L) m).n (rd (TT b L) m).c) → FG [1, 3, 4, 13, 14, 15, 16, 17, 18, 19, 20] st s0 → mW (mMC mT (d + 8)) (0, fun _ => 0) (mAtL P_X7_readInto) (some .int) Q 20 [some (.ref 1), some (.ref 13), some (.int (nI m))] [] s0 from key 301 0 ((mU (mU (mU (mU (mU s1.1 13 0 0) 13 1 0) 13 2 0) 1 4 0) 1 5 0), s1.2) (by omega) (fun j hj => absurd hj (Nat.not_lt_zero _)) ⟨rfl, rfl, Nat.zero_le _⟩ hTT (fun k hk => (htk k hk).2) (fun _ => ⟨rfl, rfl, rfl, fun _ h => absurd h (Nat.not_lt_zero _), fun _ h => absurd h (Nat.not_lt_zero _), fun _ h => absurd h (Nat.not_lt_zero _)⟩) hF2
  intro f
  induction f with
  | zero =>
    intro m s0 hm hns hQ hTT hst hX hf
    have hrm := rd_m (TT b L) m hns
    have hQk := XQ_tok hQ hTT
    have hT7 := hTT.2.2.1 (rd (TT b L) m).p.1
    have hqA := hQ.2.2
    have hpt : TT b L (rd (TT b L) m).p.1 ≠ 100 → (rd (TT b L) m).p.1 < L := fun h => TT_k h
    by_cases hs : stopQ (TT b L) (rd (TT b L) m)
    · refine w_blk 2 (pc' := 24) (ls' := [some (.ref 1), some (.ref 13), some (.int (nI m))]) (sk' := [.int 300, .int (nI m)]) (st' := s0) (fun _ h => h) ?_
      refine w_cmp_ge rfl (fun h1 => ?_) (fun h1 => ?_)
      · replace h1 : 300 ≤ m := (nI_leI (a := 300) (b := m) (by omega) (by omega)).mp h1
        exact keyE _ m s0 ⟨m, rfl, hs⟩ hQ hst hX hf
      · replace h1 : ¬ (300 ≤ m) := fun hh => h1 ((nI_leI (a := 300) (b := m) (by omega) (by omega)).mpr hh)
        by_cases hf2 : (rd (TT b L) m).p.2 = true
        · refine w_blk 2 (pc' := 31) (ls' := [some (.ref 1), some (.ref 13), some (.int (nI m))]) (sk' := [.int (s0.1 1 5)]) (st' := s0) (fun _ h => h) ?_
          rw [hQ.2.1.trans (pI_t hf2)]
          refine w_if_ne rfl (fun _ => ?_) (fun hno => absurd (by decide) hno)
          exact keyE _ m s0 ⟨m, rfl, hs⟩ hQ hst hX hf
        · refine w_blk 2 (pc' := 31) (ls' := [some (.ref 1), some (.ref 13), some (.int (nI m))]) (sk' := [.int (s0.1 1 5)]) (st' := s0) (fun _ h => h) ?_
          rw [hQ.2.1.trans (pI_f hf2)]
          refine w_if_ne rfl (fun hno => absurd hno (fun h => h rfl)) (fun _ => ?_)
          refine w_blk 4 (pc' := 42) (ls' := [some (.ref 1), some (.ref 13), some (.int (nI m))]) (sk' := [.int (s0.1 1 4), .ref 3]) (st' := s0) (fun _ h => h) ?_
          rw [hQ.1]
          refine w_callS (As := [.ref 3, .int (nI (rd (TT b L) m).p.1)]) (rest := []) rfl rfl rfl (Nat.le_of_ble_eq_true rfl) (Nat.le_of_ble_eq_true rfl) (c_cellK (d + 7) 3 301 ((rd (TT b L) m).p.1) s0 (by omega) (by decide) rfl) ?_
          rw [hQk]
          refine w_blk 1 (pc' := 47) (ls' := [some (.ref 1), some (.ref 13), some (.int (nI m))]) (sk' := [.int 100, .int (nI (TT b L (rd (TT b L) m).p.1))]) (st' := s0) (fun _ h => h) ?_
          have ht : TT b L (rd (TT b L) m).p.1 = 100 := hs.elim (fun e => absurd e hf2) id
          refine w_cmp_eq rfl (fun _ => ?_) (fun hno => absurd (by rw [ht]; rfl) hno)
          exact keyE _ m s0 ⟨m, rfl, hs⟩ hQ hst hX hf
    · have hf2 : ¬ (rd (TT b L) m).p.2 = true := fun e => hs (Or.inl e)
      have hff : (rd (TT b L) m).p.2 = false := Bool.eq_false_iff.mpr hf2
      have ht : ¬ TT b L (rd (TT b L) m).p.1 = 100 := fun e => hs (Or.inr e)
      have hrm2 := hrm hff
      have hpl := hpt ht
      have hm3 : m < 300 := by omega
      exfalso; omega
  | succ f ih =>
    intro m s0 hm hns hQ hTT hst hX hf
    have hrm := rd_m (TT b L) m hns
    have hQk := XQ_tok hQ hTT
    have hT7 := hTT.2.2.1 (rd (TT b L) m).p.1
    have hqA := hQ.2.2
    have hpt : TT b L (rd (TT b L) m).p.1 ≠ 100 → (rd (TT b L) m).p.1 < L := fun h => TT_k h
    by_cases hs : stopQ (TT b L) (rd (TT b L) m)
    · refine w_blk 2 (pc' := 24) (ls' := [some (.ref 1), some (.ref 13), some (.int (nI m))]) (sk' := [.int 300, .int (nI m)]) (st' := s0) (fun _ h => h) ?_
      refine w_cmp_ge rfl (fun h1 => ?_) (fun h1 => ?_)
      · replace h1 : 300 ≤ m := (nI_leI (a := 300) (b := m) (by omega) (by omega)).mp h1
        exact keyE _ m s0 ⟨m, rfl, hs⟩ hQ hst hX hf
      · replace h1 : ¬ (300 ≤ m) := fun hh => h1 ((nI_leI (a := 300) (b := m) (by omega) (by omega)).mpr hh)
        by_cases hf2 : (rd (TT b L) m).p.2 = true
        · refine w_blk 2 (pc' := 31) (ls' := [some (.ref 1), some (.ref 13), some (.int (nI m))]) (sk' := [.int (s0.1 1 5)]) (st' := s0) (fun _ h => h) ?_
          rw [hQ.2.1.trans (pI_t hf2)]
          refine w_if_ne rfl (fun _ => ?_) (fun hno => absurd (by decide) hno)
          exact keyE _ m s0 ⟨m, rfl, hs⟩ hQ hst hX hf
        · refine w_blk 2 (pc' := 31) (ls' := [some (.ref 1), some (.ref 13), some (.int (nI m))]) (sk' := [.int (s0.1 1 5)]) (st' := s0) (fun _ h => h) ?_
          rw [hQ.2.1.trans (pI_f hf2)]
          refine w_if_ne rfl (fun hno => absurd hno (fun h => h rfl)) (fun _ => ?_)
          refine w_blk 4 (pc' := 42) (ls' := [some (.ref 1), some (.ref 13), some (.int (nI m))]) (sk' := [.int (s0.1 1 4), .ref 3]) (st' := s0) (fun _ h => h) ?_
          rw [hQ.1]
          refine w_callS (As := [.ref 3, .int (nI (rd (TT b L) m).p.1)]) (rest := []) rfl rfl rfl (Nat.le_of_ble_eq_true rfl) (Nat.le_of_ble_eq_true rfl) (c_cellK (d + 7) 3 301 ((rd (TT b L) m).p.1) s0 (by omega) (by decide) rfl) ?_
          rw [hQk]
          refine w_blk 1 (pc' := 47) (ls' := [some (.ref 1), some (.ref 13), some (.int (nI m))]) (sk' := [.int 100, .int (nI (TT b L (rd (TT b L) m).p.1))]) (st' := s0) (fun _ h => h) ?_
          have ht : TT b L (rd (TT b L) m).p.1 = 100 := hs.elim (fun e => absurd e hf2) id
          refine w_cmp_eq rfl (fun _ => ?_) (fun hno => absurd (by rw [ht]; rfl) hno)
          exact keyE _ m s0 ⟨m, rfl, hs⟩ hQ hst hX hf
    · have hf2 : ¬ (rd (TT b L) m).p.2 = true := fun e => hs (Or.inl e)
      have hff : (rd (TT b L) m).p.2 = false := Bool.eq_false_iff.mpr hf2
      have ht : ¬ TT b L (rd (TT b L) m).p.1 = 100 := fun e => hs (Or.inr e)
      have hrm2 := hrm hff
      have hpl := hpt ht
      have hm3 : m < 300 := by omega
      refine w_blk 2 (pc' := 24) (ls' := [some (.ref 1), some (.ref 13), some (.int (nI m))]) (sk' := [.int 300, .int (nI m)]) (st' := s0) (fun _ h => h) ?_
      refine w_cmp_ge rfl (fun hno => absurd hno (nI_ge (a := m) (b := 300) hm3 (by decide))) (fun _ => ?_)
      refine w_blk 2 (pc' := 31) (ls' := [some (.ref 1), some (.ref 13), some (.int (nI m))]) (sk' := [.int (s0.1 1 5)]) (st' := s0) (fun _ h => h) ?_
      rw [hQ.2.1.trans (pI_f hf2)]
      refine w_if_ne rfl (fun hno => absurd hno (fun h => h rfl)) (fun _ => ?_)
      refine w_blk 4 (pc' := 42) (ls' := [some (.ref 1), some (.ref 13), some (.int (nI m))]) (sk' := [.int (s0.1 1 4), .ref 3]) (st' := s0) (fun _ h => h) ?_
      rw [hQ.1]
      refine w_callS (As := [.ref 3, .int (nI (rd (TT b L) m).p.1)]) (rest := []) rfl rfl rfl (Nat.le_of_ble_eq_true rfl) (Nat.le_of_ble_eq_true rfl) (c_cellK (d + 7) 3 301 ((rd (TT b L) m).p.1) s0 (by omega) (by decide) rfl) ?_
      rw [hQk]
      refine w_blk 1 (pc' := 47) (ls' := [some (.ref 1), some (.ref 13), some (.int (nI m))]) (sk' := [.int 100, .int (nI (TT b L (rd (TT b L) m).p.1))]) (st' := s0) (fun _ h => h) ?_
      refine w_cmp_eq rfl (fun hno => absurd hno (fun e => ht ((nI_eq (b := 100) (by omega) (by decide)).mp e))) (fun _ => ?_)
      obtain ⟨s2, hc2, hQ2, hX2, hf9⟩ := c_readItem_13 (d + 3) (TT b L) A (rd (TT b L) m) s0 hQ hTT hff (hX hff) (rd_CB (TT b L) m)
      rw [← rd_s hs] at hQ2 hX2
      refine w_blk 2 (pc' := 52) (ls' := [some (.ref 1), some (.ref 13), some (.int (nI m))]) (sk' := [.ref 13, .ref 1]) (st' := s0) (fun _ h => h) ?_
      refine w_callV (As := [.ref 1, .ref 13]) (rest := []) rfl rfl rfl (Nat.le_of_ble_eq_true rfl) (Nat.le_of_ble_eq_true rfl) (by first | exact Or.inl ⟨rfl, rfl⟩ | exact Or.inr ⟨rfl, rfl⟩) hc2 ?_
      refine w_blk 1 (pc' := 58) (ls' := [some (.ref 1), some (.ref 13), some (.int ((nI m) + 1))]) (sk' := []) (st' := s2) (fun _ h => h) ?_
      rw [show ((nI m) + 1) = nI (m + 1) from nI_add m 1]
      refine w_blk 1 (pc' := 20) (ls' := [some (.ref 1), some (.ref 13), some (.int (nI (m + 1)))]) (sk' := []) (st' := s2) (fun _ h => h) ?_
      exact ih (m + 1) s2 (by omega) (fun j hj => if e : j = m then (by rw [e]; exact hs) else hns j (by omega)) hQ2 (XTo_e (hf9.1.1 3 (by decide)) hTT) (fun k hk => (congrFun (hf9.1.1 4 (by decide)) k).trans (hst k hk)) hX2 (FG.trans hf (FG.mono hf9 (by decide)))
