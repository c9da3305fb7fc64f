/-! FOLLOW: place: the walks -/
theorem sh2 {k : Nat} (hk : k < 29) : (2 : Int32) <<< (nI k &&& 31) = nI (2 ^ (k + 1)) := by
  have h := nI_shl (a := 2) (k := k) (by omega) (by
    have : 2 ^ k ≤ 2 ^ 29 := Nat.pow_le_pow_right (by decide) (by omega)
    omega)
  rw [Nat.pow_succ, Nat.mul_comm]
  exact h
theorem orT_upd {a : Nat → Nat} {d s : Nat} : orB (fun _ => true) (updN a d s) (d + 1) = orB (fun _ => true) a d ||| 2 ^ s := by
  have h : ∀ m, m ≤ d → orB (fun _ => true) (updN a d s) m = orB (fun _ => true) a m := by
    intro m
    induction m with
    | zero => exact fun _ => rfl
    | succ m ih =>
      intro hm
      show (if true = true then orB (fun _ => true) (updN a d s) m ||| 2 ^ updN a d s m else orB (fun _ => true) (updN a d s) m) = (if true = true then orB (fun _ => true) a m ||| 2 ^ a m else orB (fun _ => true) a m)
      rw [ih (by omega), updN_n (by omega)]
  show (if true = true then orB (fun _ => true) (updN a d s) d ||| 2 ^ updN a d s d else orB (fun _ => true) (updN a d s) d) = _
  rw [if_pos rfl, h d (Nat.le_refl _), updN_s]
theorem FO_put {st : mSt} {ob : Nat → Nat} {s x : Nat} (h : FO st ob) : FO (mU st.1 33 s (nI x), st.2) (updN ob s x) := by
  intro k hk
  show mU st.1 33 s (nI x) 33 k = _
  by_cases e : k = s
  · rw [e, updN_s]
    exact mU_at
  · rw [updN_n e]
    exact (mU_row e).trans (h k hk)
theorem updN_back {ob : Nat → Nat} {s x : Nat} : updN (updN ob s x) s (ob s) = ob := by
  funext k
  unfold updN
  by_cases e : k = s
  · rw [if_pos e, e]
  · rw [if_neg e, if_neg e]
theorem or256 {a : Nat → Nat} {d s : Nat} (h : ∀ k, k < d → a k < 8) (hs : s < 8) : orB (fun _ => true) a d ||| 2 ^ s < 256 := Nat.or_lt_two_pow (n := 8) (orB_lt d h) (Nat.pow_lt_pow_right (by decide) hs)
set_option maxRecDepth 20000 in
/-- placeWith(d, s, used) -/
theorem t_with (d : Nat) (n : Nat → Nat) (E : EdT) (R : Nat) (ρ : Nat → Nat) (m : Nat) (d0 s0 : Nat) (a ob : Nat → Nat) (st : mSt) (hb0 : n 0 ≤ 6) (hE9 : ∀ d s, d < 6 → s < 8 → E d s = true → d < n 0) (hR : 1 ≤ R) (hR8 : R ≤ 8) (hF : FST E (n 0) R ρ) (hPL : PLC n E R ρ (d + 4) m) (hdm : d0 + (m + 1) = n 0) (hs0 : s0 < 8) (hEs : E d0 s0 = true) (hnu : ∀ e, e < d0 → a e ≠ s0) (hH : PLH n E R ρ a ob d0 s0 st) : ∃ (z : Int32) (s : mSt), mMC mT (d + 5) 18 [.ref 31, .int (nI d0), .int (nI s0), .int (nI (orB (fun _ => true) a d0 ||| 2 ^ s0))] st (some (.int z)) s ∧ PLP n ρ a ob d0 ((∀ k, k < d0 → a k = ρ k) ∧ s0 = ρ d0) z st s := by
  suffices H : ∀ Q : Option Value → mSt → Prop, (∀ (z : Int32) (s : mSt), (PLP n ρ a ob d0 ((∀ k, k < d0 → a k = ρ k) ∧ s0 = ρ d0) z st s) → Q (some (.int z)) s) → mW (mMC mT (d + 4)) (0, fun _ => 0) (mAtL P_X0_placeWith) (some .boolean) Q 0 [some (.ref 31), some (.int (nI d0)), some (.int (nI s0)), some (.int (nI (orB (fun _ => true) a d0 ||| 2 ^ s0))), none] [] st by
    obtain ⟨_, _, ⟨z, s, rfl, rfl, hp⟩, hw⟩ := mW_ex (H (fun vv tt => ∃ (z : Int32) (s : mSt),  vv = some (.int z) ∧ s = tt ∧ PLP n ρ a ob d0 ((∀ k, k < d0 → a k = ρ k) ∧ s0 = ρ d0) z st s) (fun z s hp => ⟨z, s, rfl, rfl, hp⟩))
    exact ⟨z, s, mI_X0_placeWith (d := d + 4) (Nat.le_of_ble_eq_true rfl) hw, hp⟩
  intro Q hq
  obtain ⟨hvp, hinb, hFD, hFR, hO, hOB, hro⟩ := hH
  have hob := (hOB s0 hs0).1
  have h2d : 2 ^ d0 < 64 := (show 2 ^ d0 < 2 ^ 6 from Nat.pow_lt_pow_right (by decide) (by omega))
  have hu := or256 (a := a) (d := d0) (s := s0) (fun k hk => (hvp.1 k hk).1) hs0
  have hsv : 2 ^ (d0 + 1) - 1 < 256 := by
    have : 2 ^ (d0 + 1) ≤ 2 ^ 6 := Nat.pow_le_pow_right (by decide) (by omega)
    omega
  refine w_blk 3 (pc' := 5) (ls' := [some (.ref 31), some (.int (nI d0)), some (.int (nI s0)), some (.int (nI (orB (fun _ => true) a d0 ||| 2 ^ s0))), none]) (sk' := [.int (nI s0), .ref 33]) (st' := st) (fun _ h => h) ?_
  refine w_callS (As := [.ref 33, .int (nI s0)]) (rest := []) rfl rfl rfl (Nat.le_of_ble_eq_true rfl) (Nat.le_of_ble_eq_true rfl) (c_cellK (d + 3) 33 8 s0 st (by omega) (by decide) rfl) ?_
  rw [hO s0 (by omega)]
  refine w_blk 8 (pc' := 20) (ls' := [some (.ref 31), some (.int (nI d0)), some (.int (nI s0)), some (.int (nI (orB (fun _ => true) a d0 ||| 2 ^ s0))), some (.int (nI (ob s0)))]) (sk' := [.int (1 <<< ((nI d0) &&& 31)), .int (nI (ob s0)), .int (nI s0), .ref 33]) (st' := st) (fun _ h => h) ?_
  rw [show (1 <<< ((nI d0) &&& 31)) = nI (2 ^ d0) from nI_shl1 (by omega)]
  refine w_blk 3 (pc' := 23) (ls' := [some (.ref 31), some (.int (nI d0)), some (.int (nI s0)), some (.int (nI (orB (fun _ => true) a d0 ||| 2 ^ s0))), some (.int (nI (ob s0)))]) (sk' := [.int ((nI (ob s0)) &&& ((nI (2 ^ d0)) ^^^ (-1))), .int (nI s0), .ref 33]) (st' := st) (fun _ h => h) ?_
  rw [andn_I hob h2d]
  refine w_callS (As := [.ref 33, .int (nI s0), .int (nI (andn (ob s0) (2 ^ d0)))]) (rest := []) rfl rfl rfl (Nat.le_of_ble_eq_true rfl) (Nat.le_of_ble_eq_true rfl) (c_putK (d + 3) 33 8 s0 (nI (andn (ob s0) (2 ^ d0))) st (by omega) (by decide) rfl) ?_
  refine w_blk 4 (pc' := 32) (ls' := [some (.ref 31), some (.int (nI d0)), some (.int (nI s0)), some (.int (nI (orB (fun _ => true) a d0 ||| 2 ^ s0))), some (.int (nI (ob s0)))]) (sk' := [.int (nI s0), .int (nI d0), .ref 32]) (st' := ((mU st.1 33 s0 (nI (andn (ob s0) (2 ^ d0)))), st.2)) (fun _ h => h) ?_
  refine w_callS (As := [.ref 32, .int (nI d0), .int (nI s0)]) (rest := []) rfl rfl rfl (Nat.le_of_ble_eq_true rfl) (Nat.le_of_ble_eq_true rfl) (c_putK (d + 3) 32 6 d0 (nI s0) ((mU st.1 33 s0 (nI (andn (ob s0) (2 ^ d0)))), st.2) (by omega) (by decide) rfl) ?_
  have hO_2 : FO ((mU (mU st.1 33 s0 (nI (andn (ob s0) (2 ^ d0)))) 32 d0 (nI s0)), st.2) (updN ob s0 (andn (ob s0) (2 ^ d0))) := (show FO (mU (mU st.1 33 s0 (nI (andn (ob s0) (2 ^ d0)))) 32 d0 (nI s0), st.2) _ from fun k hk => (FO_put hO) k hk)
  have hro_3 : ∀ k, k < d0 + 1 → (((mU (mU st.1 33 s0 (nI (andn (ob s0) (2 ^ d0)))) 32 d0 (nI s0)), st.2)).1 32 k = nI ((updN a d0 s0) k) := (fun k hk => if ek : k = d0 then (by rw [ek, updN_s]; exact mU_at (f := mU st.1 33 s0 (nI (andn (ob s0) (2 ^ d0)))) (p := 32) (k := d0) (x := nI s0)) else (by rw [updN_n ek]; exact (mU_row (f := mU st.1 33 s0 (nI (andn (ob s0) (2 ^ d0)))) (p := 32) (k := d0) (x := nI s0) ek).trans ((congrFun (mU_ne (f := st.1) (p := 33) (k := s0) (q := 32) (x := nI (andn (ob s0) (2 ^ d0))) (by decide)) k).trans (hro k (by omega)))))
  have hFD_4 : (((mU (mU st.1 33 s0 (nI (andn (ob s0) (2 ^ d0)))) 32 d0 (nI s0)), st.2)).1 31 2 = nI (n 0) := hFD
  have hFR_5 : (((mU (mU st.1 33 s0 (nI (andn (ob s0) (2 ^ d0)))) 32 d0 (nI s0)), st.2)).1 31 0 = nI R := hFR
  have hF_6 : Fr [32, 33] st ((mU (mU st.1 33 s0 (nI (andn (ob s0) (2 ^ d0)))) 32 d0 (nI s0)), st.2) := (Fr.trans (Fr.trans Fr.rf (Fr.mU (by decide))) (Fr.mU (by decide)))
  generalize ((mU (mU st.1 33 s0 (nI (andn (ob s0) (2 ^ d0)))) 32 d0 (nI s0)), st.2) = s1 at hO_2 hro_3 hFD_4 hFR_5 hF_6 ⊢
  have hOB1 : OBE (updN ob s0 (andn (ob s0) (2 ^ d0))) (Em E (updN a d0 s0) (d0 + 1)) := OBE_take hOB (by omega) hs0
  have hagi : (∀ k, k < d0 + 1 → (updN a d0 s0) k = ρ k) ↔ ((∀ k, k < d0 → a k = ρ k) ∧ s0 = ρ d0) := ⟨fun h9 => ⟨fun k hk => by have h8 := h9 k (by omega); rw [updN_n (by omega)] at h8; exact h8, by have h8 := h9 d0 (by omega); rw [updN_s] at h8; exact h8⟩, fun h9 k hk => if ek : k = d0 then (by rw [ek, updN_s]; exact h9.2) else (by rw [updN_n ek]; exact h9.1 k (by omega))⟩
  refine w_blk 3 (pc' := 40) (ls' := [some (.ref 31), some (.int (nI d0)), some (.int (nI s0)), some (.int (nI (orB (fun _ => true) a d0 ||| 2 ^ s0))), some (.int (nI (ob s0)))]) (sk' := [.int (s1.1 31 0), .ref 31]) (st' := s1) (fun _ h => h) ?_
  rw [hFR_5]
  refine w_blk 3 (pc' := 43) (ls' := [some (.ref 31), some (.int (nI d0)), some (.int (nI s0)), some (.int (nI (orB (fun _ => true) a d0 ||| 2 ^ s0))), some (.int (nI (ob s0)))]) (sk' := [.int (2 <<< ((nI d0) &&& 31)), .int (nI R), .ref 31]) (st' := s1) (fun _ h => h) ?_
  rw [sh2 (show d0 < 29 by omega)]
  refine w_blk 2 (pc' := 45) (ls' := [some (.ref 31), some (.int (nI d0)), some (.int (nI s0)), some (.int (nI (orB (fun _ => true) a d0 ||| 2 ^ s0))), some (.int (nI (ob s0)))]) (sk' := [.int ((nI (2 ^ (d0 + 1))) - 1), .int (nI R), .ref 31]) (st' := s1) (fun _ h => h) ?_
  rw [show (nI (2 ^ (d0 + 1)) - 1) = nI (2 ^ (d0 + 1) - 1) from pk_sub (a := 2 ^ (d0 + 1)) (b := 1) Nat.one_le_two_pow]
  refine w_blk 1 (pc' := 46) (ls' := [some (.ref 31), some (.int (nI d0)), some (.int (nI s0)), some (.int (nI (orB (fun _ => true) a d0 ||| 2 ^ s0))), some (.int (nI (ob s0)))]) (sk' := [.int (nI (orB (fun _ => true) a d0 ||| 2 ^ s0)), .int (nI (2 ^ (d0 + 1) - 1)), .int (nI R), .ref 31]) (st' := s1) (fun _ h => h) ?_
  refine w_callV (As := [.ref 31, .int (nI R), .int (nI (2 ^ (d0 + 1) - 1)), .int (nI (orB (fun _ => true) a d0 ||| 2 ^ s0))]) (rest := []) rfl rfl rfl (Nat.le_of_ble_eq_true rfl) (Nat.le_of_ble_eq_true rfl) (by first | exact Or.inl ⟨rfl, rfl⟩ | exact Or.inr ⟨rfl, rfl⟩) (c_fits (d + 1) n (Em E (updN a d0 s0) (d0 + 1)) (updN ob s0 (andn (ob s0) (2 ^ d0))) R (2 ^ (d0 + 1) - 1) (orB (fun _ => true) a d0 ||| 2 ^ s0) s1 hb0 hFD_4 hO_2 hOB1 (by omega) (by omega) (by omega) (by omega)) ?_
  refine w_if_eq rfl (fun h1 => ?_) (fun h1 => ?_)
  · replace h1 := pI_eq0.mp h1
    refine w_blk 4 (pc' := 72) (ls' := [some (.ref 31), some (.int (nI d0)), some (.int (nI s0)), some (.int (nI (orB (fun _ => true) a d0 ||| 2 ^ s0))), some (.int (nI (ob s0)))]) (sk' := [.int (nI (ob s0)), .int (nI s0), .ref 33]) (st' := s1) (fun _ h => h) ?_
    refine w_callS (As := [.ref 33, .int (nI s0), .int (nI (ob s0))]) (rest := []) rfl rfl rfl (Nat.le_of_ble_eq_true rfl) (Nat.le_of_ble_eq_true rfl) (c_putK (d + 3) 33 8 s0 (nI (ob s0)) s1 (by omega) (by decide) rfl) ?_
    refine w_blk 1 (pc' := 76) (ls' := [some (.ref 31), some (.int (nI d0)), some (.int (nI s0)), some (.int (nI (orB (fun _ => true) a d0 ||| 2 ^ s0))), some (.int (nI (ob s0)))]) (sk' := [.int 0]) (st' := ((mU s1.1 33 s0 (nI (ob s0))), s1.2)) (fun _ h => h) ?_
    exact w_iret rfl rfl rfl (hq 0 _ ⟨Fr.trans hF_6 (Fr.mU (by decide)), fun hx9 => absurd hx9 (fun hg => h1 (fitsB_iff.mpr (by have h9 := ahead_ok hR hb0 hE9 hF.1 (show d0 < n 0 by omega) (hagi.mpr hg); rw [orT_upd] at h9; exact h9))), fun _ => ⟨rfl, (by have h9 := FO_put (s := s0) (x := ob s0) hO_2; rw [updN_back] at h9; exact h9), fun k hk => (by have h9 := hro_3 k (by omega); rw [updN_n (by omega)] at h9; exact h9)⟩⟩)
  · replace h1 := pI_ne.mp h1
    obtain ⟨z, s5, hc5, hf5, hy5, hn5⟩ := hPL (d0 + 1) (updN a d0 s0) (updN ob s0 (andn (ob s0) (2 ^ d0))) s1 (by omega) ⟨⟨fun k hk => if ek : k = d0 then (by rw [ek, updN_s]; exact ⟨hs0, hEs⟩) else (by rw [updN_n ek]; exact hvp.1 k (by omega)), fun k e hk he => if ek : k = d0 then (by rw [ek, updN_s, updN_n (by omega)]; exact hnu e (by omega)) else (by rw [updN_n ek, updN_n (by omega)]; exact hvp.2 k e (by omega) he)⟩, INB_on (by rw [updN_s]; exact INB_cong (fun k hk => (updN_n (by omega)).symm) hinb), hFD_4, hFR_5, hO_2, hOB1, hro_3⟩
    rw [orT_upd] at hc5
    refine w_blk 4 (pc' := 56) (ls' := [some (.ref 31), some (.int (nI d0)), some (.int (nI s0)), some (.int (nI (orB (fun _ => true) a d0 ||| 2 ^ s0))), some (.int (nI (ob s0)))]) (sk' := [.int ((nI d0) + 1), .ref 31]) (st' := s1) (fun _ h => h) ?_
    rw [show ((nI d0) + 1) = nI (d0 + 1) from nI_add d0 1]
    refine w_blk 1 (pc' := 57) (ls' := [some (.ref 31), some (.int (nI d0)), some (.int (nI s0)), some (.int (nI (orB (fun _ => true) a d0 ||| 2 ^ s0))), some (.int (nI (ob s0)))]) (sk' := [.int (nI (orB (fun _ => true) a d0 ||| 2 ^ s0)), .int (nI (d0 + 1)), .ref 31]) (st' := s1) (fun _ h => h) ?_
    refine w_callV (As := [.ref 31, .int (nI (d0 + 1)), .int (nI (orB (fun _ => true) a d0 ||| 2 ^ s0))]) (rest := []) rfl rfl rfl (Nat.le_of_ble_eq_true rfl) (Nat.le_of_ble_eq_true rfl) (by first | exact Or.inl ⟨rfl, rfl⟩ | exact Or.inr ⟨rfl, rfl⟩) hc5 ?_
    by_cases hg : ∀ k, k < d0 + 1 → (updN a d0 s0) k = ρ k
    · obtain ⟨hz, hrow⟩ := hy5 hg
      subst hz
      refine w_if_eq rfl (fun hno => absurd hno (by decide)) (fun _ => ?_)
      refine w_blk 1 (pc' := 64) (ls' := [some (.ref 31), some (.int (nI d0)), some (.int (nI s0)), some (.int (nI (orB (fun _ => true) a d0 ||| 2 ^ s0))), some (.int (nI (ob s0)))]) (sk' := [.int 1]) (st' := s5) (fun _ h => h) ?_
      exact w_iret rfl rfl rfl (hq 1 s5 ⟨Fr.trans hF_6 hf5, fun _ => ⟨rfl, hrow⟩, fun hh => absurd (hagi.mp hg) hh⟩)
    · obtain ⟨hz, hO5, hro5⟩ := hn5 hg
      subst hz
      refine w_if_eq rfl (fun _ => ?_) (fun hno => absurd rfl hno)
      refine w_blk 4 (pc' := 72) (ls' := [some (.ref 31), some (.int (nI d0)), some (.int (nI s0)), some (.int (nI (orB (fun _ => true) a d0 ||| 2 ^ s0))), some (.int (nI (ob s0)))]) (sk' := [.int (nI (ob s0)), .int (nI s0), .ref 33]) (st' := s5) (fun _ h => h) ?_
      refine w_callS (As := [.ref 33, .int (nI s0), .int (nI (ob s0))]) (rest := []) rfl rfl rfl (Nat.le_of_ble_eq_true rfl) (Nat.le_of_ble_eq_true rfl) (c_putK (d + 3) 33 8 s0 (nI (ob s0)) s5 (by omega) (by decide) rfl) ?_
      refine w_blk 1 (pc' := 76) (ls' := [some (.ref 31), some (.int (nI d0)), some (.int (nI s0)), some (.int (nI (orB (fun _ => true) a d0 ||| 2 ^ s0))), some (.int (nI (ob s0)))]) (sk' := [.int 0]) (st' := ((mU s5.1 33 s0 (nI (ob s0))), s5.2)) (fun _ h => h) ?_
      exact w_iret rfl rfl rfl (hq 0 _ ⟨Fr.trans (Fr.trans hF_6 hf5) (Fr.mU (by decide)), fun hx9 => absurd hx9 (fun hh => hg (hagi.mpr hh)), fun _ => ⟨rfl, (by have h9 := FO_put (s := s0) (x := ob s0) hO5; rw [updN_back] at h9; exact h9), fun k hk => (by have h9 := hro5 k (by omega); rw [updN_n (by omega)] at h9; exact h9)⟩⟩)
set_option maxRecDepth 20000 in
/-- place(d, used), all placed -/
theorem t_last (d : Nat) (n : Nat → Nat) (E : EdT) (R : Nat) (ρ : Nat → Nat) (d0 : Nat) (a ob : Nat → Nat) (st : mSt) (hb0 : n 0 ≤ 6) (hE9 : ∀ d s, d < 6 → s < 8 → E d s = true → d < n 0) (hR : 1 ≤ R) (hR8 : R ≤ 8) (hF : FST E (n 0) R ρ) (hdm : d0 = n 0) (hH : PLH n E R ρ a ob d0 0 st) : ∃ (z : Int32) (s : mSt), mMC mT (d + 4) 17 [.ref 31, .int (nI d0), .int (nI (orB (fun _ => true) a d0))] st (some (.int z)) s ∧ PLP n ρ a ob d0 (∀ k, k < d0 → a k = ρ k) z st s := by
  suffices H : ∀ Q : Option Value → mSt → Prop, (∀ (z : Int32) (s : mSt), PLP n ρ a ob d0 (∀ k, k < d0 → a k = ρ k) z st s → Q (some (.int z)) s) → mW (mMC mT (d + 3)) (0, fun _ => 0) (mAtL P_X0_place) (some .boolean) Q 0 [some (.ref 31), some (.int (nI d0)), some (.int (nI (orB (fun _ => true) a d0))), none] [] st by
    obtain ⟨_, _, ⟨z, s, rfl, rfl, hp⟩, hw⟩ := mW_ex (H (fun vv tt => ∃ (z : Int32) (s : mSt),  vv = some (.int z) ∧ s = tt ∧ PLP n ρ a ob d0 (∀ k, k < d0 → a k = ρ k) z st s) (fun z s hp => ⟨z, s, rfl, rfl, hp⟩))
    exact ⟨z, s, mI_X0_place (d := d + 3) (Nat.le_of_ble_eq_true rfl) hw, hp⟩
  intro Q hq
  obtain ⟨hvp, hinb, hFD, hFR, hO, hOB, hro⟩ := hH
  have hsv : 2 ^ d0 - 1 < 256 := by
    have : 2 ^ d0 ≤ 2 ^ 6 := Nat.pow_le_pow_right (by decide) (by omega)
    omega
  refine w_blk 3 (pc' := 5) (ls' := [some (.ref 31), some (.int (nI d0)), some (.int (nI (orB (fun _ => true) a d0))), none]) (sk' := [.int (st.1 31 2), .int (nI d0)]) (st' := st) (fun _ h => h) ?_
  rw [hFD]
  refine w_cmp_lt rfl (fun hno => absurd hno (fun hh => absurd ((nI_ltI (by omega) (by omega)).mp hh) (by omega))) (fun _ => ?_)
  refine w_blk 3 (pc' := 13) (ls' := [some (.ref 31), some (.int (nI d0)), some (.int (nI (orB (fun _ => true) a d0))), none]) (sk' := [.int (st.1 31 0), .ref 31]) (st' := st) (fun _ h => h) ?_
  rw [hFR]
  refine w_blk 3 (pc' := 16) (ls' := [some (.ref 31), some (.int (nI d0)), some (.int (nI (orB (fun _ => true) a d0))), none]) (sk' := [.int (1 <<< ((nI d0) &&& 31)), .int (nI R), .ref 31]) (st' := st) (fun _ h => h) ?_
  rw [show (1 <<< ((nI d0) &&& 31)) = nI (2 ^ d0) from nI_shl1 (by omega)]
  refine w_blk 2 (pc' := 18) (ls' := [some (.ref 31), some (.int (nI d0)), some (.int (nI (orB (fun _ => true) a d0))), none]) (sk' := [.int ((nI (2 ^ d0)) - 1), .int (nI R), .ref 31]) (st' := st) (fun _ h => h) ?_
  rw [show (nI (2 ^ d0) - 1) = nI (2 ^ d0 - 1) from pk_sub (a := 2 ^ d0) (b := 1) Nat.one_le_two_pow]
  refine w_blk 1 (pc' := 21) (ls' := [some (.ref 31), some (.int (nI d0)), some (.int (nI (orB (fun _ => true) a d0))), none]) (sk' := [.int 255, .int (nI (2 ^ d0 - 1)), .int (nI R), .ref 31]) (st' := st) (fun _ h => h) ?_
  refine w_callV (As := [.ref 31, .int (nI R), .int (nI (2 ^ d0 - 1)), .int 255]) (rest := []) rfl rfl rfl (Nat.le_of_ble_eq_true rfl) (Nat.le_of_ble_eq_true rfl) (by first | exact Or.inl ⟨rfl, rfl⟩ | exact Or.inr ⟨rfl, rfl⟩) (c_fits (d + 0) n (Em E a d0) ob R (2 ^ d0 - 1) 255 st hb0 hFD hO hOB (by omega) (by omega) (by omega) (by omega)) ?_
  have hlast : fitsB (Em E a d0) R (n 0) (2 ^ d0 - 1) 255 = true ↔ LVS E a (R - 1) (n 0) := by
    rw [hdm]
    exact fitsB_iff.trans (last_ok hR)
  have hiff : fitsB (Em E a d0) R (n 0) (2 ^ d0 - 1) 255 = true ↔ ∀ k, k < d0 → a k = ρ k := by
    rw [hlast]
    constructor
    · intro h9
      rcases hinb with ⟨h8, -⟩ | ⟨e, he, h8, h7⟩
      · exact h8
      · exact absurd ⟨e, by omega, h8, h7⟩ (hF.2 a ⟨fun k hk => hvp.1 k (by omega), fun k e hk he => hvp.2 k e (by omega) he, h9⟩)
    · intro h9
      have h8 := hF.1.2.2
      unfold LVS at h8 ⊢
      rw [Em_cong (ρ := a) (ρ' := ρ) (fun k hk => h9 k (by omega))]
      exact h8
  refine w_iret rfl rfl (nar_pI _) (hq _ st ⟨Fr.rf, fun hg => ⟨pI_t (hiff.mpr hg), fun k hk => by rw [← hg k (by omega)]; exact hro k (by omega)⟩, fun hg => ⟨pI_f (fun h9 => hg (hiff.mp h9)), hO, hro⟩⟩)
set_option maxRecDepth 20000 in
/-- place(d, used) -/
theorem t_place (d : Nat) (n : Nat → Nat) (E : EdT) (R : Nat) (ρ : Nat → Nat) (m : Nat) (d0 : Nat) (a ob : Nat → Nat) (st : mSt) (hb0 : n 0 ≤ 6) (hE9 : ∀ d s, d < 6 → s < 8 → E d s = true → d < n 0) (hR : 1 ≤ R) (hR8 : R ≤ 8) (hF : FST E (n 0) R ρ) (hPW : PWC n E R ρ (d + 5) m) (hdm : d0 + (m + 1) = n 0) (hH : PLH n E R ρ a ob d0 0 st) : ∃ (z : Int32) (s : mSt), mMC mT (d + 6) 17 [.ref 31, .int (nI d0), .int (nI (orB (fun _ => true) a d0))] st (some (.int z)) s ∧ PLP n ρ a ob d0 (∀ k, k < d0 → a k = ρ k) z st s := by
  suffices H : ∀ Q : Option Value → mSt → Prop, (∀ (z : Int32) (s : mSt), PLP n ρ a ob d0 (∀ k, k < d0 → a k = ρ k) z st s → Q (some (.int z)) s) → mW (mMC mT (d + 5)) (0, fun _ => 0) (mAtL P_X0_place) (some .boolean) Q 0 [some (.ref 31), some (.int (nI d0)), some (.int (nI (orB (fun _ => true) a d0))), none] [] st by
    obtain ⟨_, _, ⟨z, s, rfl, rfl, hp⟩, hw⟩ := mW_ex (H (fun vv tt => ∃ (z : Int32) (s : mSt),  vv = some (.int z) ∧ s = tt ∧ PLP n ρ a ob d0 (∀ k, k < d0 → a k = ρ k) z st s) (fun z s hp => ⟨z, s, rfl, rfl, hp⟩))
    exact ⟨z, s, mI_X0_place (d := d + 5) (Nat.le_of_ble_eq_true rfl) hw, hp⟩
  intro Q hq
  obtain ⟨hvp, hinb, hFD, hFR, hO, hOB, hro⟩ := hH
  have hu8 : orB (fun _ => true) a d0 < 2 ^ 8 := orB_lt d0 (fun k hk => (hvp.1 k hk).1)
  have hρd := hF.1.1 d0 (by omega)
  refine w_blk 3 (pc' := 5) (ls' := [some (.ref 31), some (.int (nI d0)), some (.int (nI (orB (fun _ => true) a d0))), none]) (sk' := [.int (st.1 31 2), .int (nI d0)]) (st' := st) (fun _ h => h) ?_
  rw [hFD]
  refine w_cmp_lt rfl (fun _ => ?_) (fun hno => absurd (nI_lt (by omega) (by omega)) hno)
  refine w_blk 2 (pc' := 27) (ls' := [some (.ref 31), some (.int (nI d0)), some (.int (nI (orB (fun _ => true) a d0))), some (.int 0)]) (sk' := []) (st' := st) (fun _ h => h) ?_
  suffices key : ∀ (m2 s0 : Nat) (s1 : mSt), s0 + m2 = 8 → INB ρ a d0 s0 → Fr [32, 33] st s1 → FO s1 ob → (∀ k, k < d0 → s1.1 32 k = nI (a k)) → mW (mMC mT (d + 5)) (0, fun _ => 0) (mAtL P_X0_place) (some .boolean) Q 27 [some (.ref 31), some (.int (nI d0)), some (.int (nI (orB (fun _ => true) a d0))), some (.int (nI s0))] [] s1 from key 8 0 st (by omega) hinb Fr.rf hO hro
  intro m2
  induction m2 with
  | zero =>
    intro s0 s1 hs hinb1 hf hO1 hro1
    obtain rfl : s0 = 8 := by omega
    refine w_blk 4 (pc' := 33) (ls' := [some (.ref 31), some (.int (nI d0)), some (.int (nI (orB (fun _ => true) a d0))), some (.int (nI 8))]) (sk' := [.int (Int32.ofNat 8), .int (nI 8)]) (st' := s1) (fun _ h => h) ?_
    rw [show (Int32.ofNat 8) = nI 8 from rfl]
    refine w_cmp_ge rfl (fun _ => ?_) (fun hno => absurd (Int32.le_refl _) hno)
    refine w_blk 1 (pc' := 80) (ls' := [some (.ref 31), some (.int (nI d0)), some (.int (nI (orB (fun _ => true) a d0))), some (.int (nI 8))]) (sk' := [.int 0]) (st' := s1) (fun _ h => h) ?_
    exact w_iret rfl rfl rfl (hq 0 s1 ⟨hf, fun hg => (by rcases hinb1 with ⟨-, h9⟩ | ⟨e, he, h8, h7⟩; (· exact absurd hρd.1 (by omega)); (· exact absurd (hg e he) (by omega))), fun _ => ⟨rfl, hO1, hro1⟩⟩)
  | succ m2 ih =>
    intro s0 s1 hs hinb1 hf hO1 hro1
    have hs8 : s0 < 8 := by omega
    have hob := hOB s0 hs8
    have hob1 := hob.1
    have hbit := hob.2 d0 (by omega)
    refine w_blk 4 (pc' := 33) (ls' := [some (.ref 31), some (.int (nI d0)), some (.int (nI (orB (fun _ => true) a d0))), some (.int (nI s0))]) (sk' := [.int (Int32.ofNat 8), .int (nI s0)]) (st' := s1) (fun _ h => h) ?_
    rw [show (Int32.ofNat 8) = nI 8 from rfl]
    refine w_cmp_ge rfl (fun hno => absurd hno (nI_ge hs8 (by omega))) (fun _ => ?_)
    refine w_blk 3 (pc' := 41) (ls' := [some (.ref 31), some (.int (nI d0)), some (.int (nI (orB (fun _ => true) a d0))), some (.int (nI s0))]) (sk' := [.int (nI s0), .ref 33]) (st' := s1) (fun _ h => h) ?_
    refine w_iald rfl rfl (vp_in_nI (n := s0) (N := 8) (by omega) (by decide)) ?_
    rw [nI_clamp (show s0 < 2 ^ 31 by omega)]
    rw [hO1 s0 (by omega)]
    refine w_blk 1 (pc' := 43) (ls' := [some (.ref 31), some (.int (nI d0)), some (.int (nI (orB (fun _ => true) a d0))), some (.int (nI s0))]) (sk' := [.int (nI d0), .int (nI (ob s0))]) (st' := s1) (fun _ h => h) ?_
    refine w_callS (As := [.int (nI (ob s0)), .int (nI d0)]) (rest := []) rfl rfl rfl (Nat.le_of_ble_eq_true rfl) (Nat.le_of_ble_eq_true rfl) (c_hasBit (d + 4) (nI (ob s0)) (nI d0) s1) ?_
    rw [show (pI (bitP (nI (ob s0)) (nI d0))) = pI (Nat.testBit (ob s0) d0 = true) from pI_cong (bitP_nI (n := ob s0) (k := d0) (by omega) (by omega))]
    refine w_if_eq rfl (fun h1 => ?_) (fun h1 => ?_)
    · replace h1 := pI_eq0.mp h1
      refine w_blk 1 (pc' := 76) (ls' := [some (.ref 31), some (.int (nI d0)), some (.int (nI (orB (fun _ => true) a d0))), some (.int ((nI s0) + 1))]) (sk' := []) (st' := s1) (fun _ h => h) ?_
      rw [show ((nI s0) + 1) = nI (s0 + 1) from nI_add s0 1]
      refine w_blk 1 (pc' := 27) (ls' := [some (.ref 31), some (.int (nI d0)), some (.int (nI (orB (fun _ => true) a d0))), some (.int (nI (s0 + 1)))]) (sk' := []) (st' := s1) (fun _ h => h) ?_
      exact ih (s0 + 1) s1 (by omega) (INB_skip hinb1 (fun hag h9 => h1 (hbit.mpr (Em_iff.mpr ⟨by rw [← h9]; exact hρd.2, fun h8 => absurd h8.1 (by omega)⟩)))) hf hO1 hro1
    · replace h1 := pI_ne.mp h1
      refine w_blk 2 (pc' := 51) (ls' := [some (.ref 31), some (.int (nI d0)), some (.int (nI (orB (fun _ => true) a d0))), some (.int (nI s0))]) (sk' := [.int (nI s0), .int (nI (orB (fun _ => true) a d0))]) (st' := s1) (fun _ h => h) ?_
      refine w_callS (As := [.int (nI (orB (fun _ => true) a d0)), .int (nI s0)]) (rest := []) rfl rfl rfl (Nat.le_of_ble_eq_true rfl) (Nat.le_of_ble_eq_true rfl) (c_hasBit (d + 4) (nI (orB (fun _ => true) a d0)) (nI s0) s1) ?_
      rw [show (pI (bitP (nI (orB (fun _ => true) a d0)) (nI s0))) = pI (Nat.testBit (orB (fun _ => true) a d0) s0 = true) from pI_cong (bitP_nI (n := orB (fun _ => true) a d0) (k := s0) (by omega) (by omega))]
      refine w_if_ne rfl (fun h2 => ?_) (fun h2 => ?_)
      · replace h2 := pI_ne.mp h2
        refine w_blk 1 (pc' := 76) (ls' := [some (.ref 31), some (.int (nI d0)), some (.int (nI (orB (fun _ => true) a d0))), some (.int ((nI s0) + 1))]) (sk' := []) (st' := s1) (fun _ h => h) ?_
        rw [show ((nI s0) + 1) = nI (s0 + 1) from nI_add s0 1]
        refine w_blk 1 (pc' := 27) (ls' := [some (.ref 31), some (.int (nI d0)), some (.int (nI (orB (fun _ => true) a d0))), some (.int (nI (s0 + 1)))]) (sk' := []) (st' := s1) (fun _ h => h) ?_
        exact ih (s0 + 1) s1 (by omega) (INB_skip hinb1 (fun hag h9 => by obtain ⟨k, hk, h8⟩ := orT_bit.mp h2; exact hF.1.2.1 d0 k (by omega) hk (by rw [← hag k hk, h8, h9]))) hf hO1 hro1
      · replace h2 := pI_eq0.mp (Decidable.not_not.mp h2)
        obtain ⟨z, s5, hc5, hf5, hy5, hn5⟩ := hPW d0 s0 a ob s1 hdm hs8 (Em_iff.mp (hbit.mp h1)).1 (fun e he h9 => h2 (orT_bit.mpr ⟨e, he, h9⟩)) ⟨hvp, hinb1, by rw [hf.1 31 (by decide)]; exact hFD, by rw [hf.1 31 (by decide)]; exact hFR, hO1, hOB, hro1⟩
        refine w_blk 7 (pc' := 64) (ls' := [some (.ref 31), some (.int (nI d0)), some (.int (nI (orB (fun _ => true) a d0))), some (.int (nI s0))]) (sk' := [.int (1 <<< ((nI s0) &&& 31)), .int (nI (orB (fun _ => true) a d0)), .int (nI s0), .int (nI d0), .ref 31]) (st' := s1) (fun _ h => h) ?_
        rw [show (1 <<< ((nI s0) &&& 31)) = nI (2 ^ s0) from nI_shl1 (by omega)]
        refine w_blk 1 (pc' := 65) (ls' := [some (.ref 31), some (.int (nI d0)), some (.int (nI (orB (fun _ => true) a d0))), some (.int (nI s0))]) (sk' := [.int ((nI (orB (fun _ => true) a d0)) ||| (nI (2 ^ s0))), .int (nI s0), .int (nI d0), .ref 31]) (st' := s1) (fun _ h => h) ?_
        rw [show ((nI (orB (fun _ => true) a d0)) ||| (nI (2 ^ s0))) = nI ((orB (fun _ => true) a d0) ||| (2 ^ s0)) from nI_or (orB (fun _ => true) a d0) (2 ^ s0)]
        refine w_callV (As := [.ref 31, .int (nI d0), .int (nI s0), .int (nI ((orB (fun _ => true) a d0) ||| (2 ^ s0)))]) (rest := []) rfl rfl rfl (Nat.le_of_ble_eq_true rfl) (Nat.le_of_ble_eq_true rfl) (by first | exact Or.inl ⟨rfl, rfl⟩ | exact Or.inr ⟨rfl, rfl⟩) hc5 ?_
        by_cases hg : (∀ k, k < d0 → a k = ρ k) ∧ s0 = ρ d0
        · obtain ⟨hz, hrow⟩ := hy5 hg
          subst hz
          refine w_if_eq rfl (fun hno => absurd hno (by decide)) (fun _ => ?_)
          refine w_blk 1 (pc' := 72) (ls' := [some (.ref 31), some (.int (nI d0)), some (.int (nI (orB (fun _ => true) a d0))), some (.int (nI s0))]) (sk' := [.int 1]) (st' := s5) (fun _ h => h) ?_
          exact w_iret rfl rfl rfl (hq 1 s5 ⟨Fr.trans hf hf5, fun _ => ⟨rfl, hrow⟩, fun hh => absurd hg.1 hh⟩)
        · obtain ⟨hz, hO5, hro5⟩ := hn5 hg
          subst hz
          refine w_if_eq rfl (fun _ => ?_) (fun hno => absurd rfl hno)
          refine w_blk 1 (pc' := 76) (ls' := [some (.ref 31), some (.int (nI d0)), some (.int (nI (orB (fun _ => true) a d0))), some (.int ((nI s0) + 1))]) (sk' := []) (st' := s5) (fun _ h => h) ?_
          rw [show ((nI s0) + 1) = nI (s0 + 1) from nI_add s0 1]
          refine w_blk 1 (pc' := 27) (ls' := [some (.ref 31), some (.int (nI d0)), some (.int (nI (orB (fun _ => true) a d0))), some (.int (nI (s0 + 1)))]) (sk' := []) (st' := s5) (fun _ h => h) ?_
          exact ih (s0 + 1) s5 (by omega) (INB_skip hinb1 (fun hag h9 => hg ⟨hag, h9.symm⟩)) (Fr.trans hf hf5) hO5 hro5
theorem t_all (n : Nat → Nat) (E : EdT) (R : Nat) (ρ : Nat → Nat) (hb0 : n 0 ≤ 6) (hE9 : ∀ d s, d < 6 → s < 8 → E d s = true → d < n 0) (hR : 1 ≤ R) (hR8 : R ≤ 8) (hF : FST E (n 0) R ρ) : ∀ m q, PLC n E R ρ (q + 2 * m + 4) m := by
  intro m
  induction m with
  | zero => exact fun q d0 a ob st hd hH => t_last q n E R ρ d0 a ob st hb0 hE9 hR hR8 hF hd hH
  | succ m ih =>
    intro q d0 a ob st hd hH
    have h1 : PLC n E R ρ (q + 2 * m + 4) m := ih q
    have h2 : PWC n E R ρ (q + 2 * m + 5) m := fun d0 s0 a ob st hd hs hE hn hH => t_with (q + 2 * m) n E R ρ m d0 s0 a ob st hb0 hE9 hR hR8 hF h1 hd hs hE hn hH
    exact t_place (q + 2 * m) n E R ρ m d0 a ob st hb0 hE9 hR hR8 hF h2 hd hH
