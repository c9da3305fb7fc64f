/-! PLAIN CALLS of the class SpadeRings, 3: rounds, breaks, now, images, counts -/
def slow (f : Nat → Nat) (b : Nat) : Nat → Nat
  | 0 => 0
  | k + 1 => if b.testBit k = true then max (slow f b k) (f k) else slow f b k
theorem slow_le {f : Nat → Nat} {b m : Nat} : ∀ k, (∀ i, i < k → f i ≤ m) → slow f b k ≤ m := by
  intro k
  induction k with
  | zero => exact fun _ => Nat.zero_le _
  | succ k ih =>
    intro h
    have h1 := ih (fun i hi => h i (by omega))
    have h2 := h k (by omega)
    unfold slow
    split <;> omega
def en_v (n : Nat → Nat) (c : Nat → Nat → Nat) (v : Nat → Int32) (u : Nat → Nat) : Nat → Int32 := updI (updI v 0 (v 0 + 1)) 1 (v 1 + nI (slow (c 1) (u 3) (n 0)))
def en_u (u : Nat → Nat) : Nat → Nat := updN (updN u 3 0) 4 0
def sp_breaks (n : Nat → Nat) (u : Nat → Nat) (x : Int32) : Int32 := if ok1 n x then (if (u 5).testBit x.toNatClampNeg = true then 0 else 1) else -1
def br_u (n : Nat → Nat) (u : Nat → Nat) (x : Int32) : Nat → Nat := if ok1 n x then updN u 5 (u 5 ||| 2 ^ x.toNatClampNeg) else u
theorem or_same {a k : Nat} (h : a.testBit k = true) : a ||| 2 ^ k = a := by
  apply Nat.eq_of_testBit_eq
  intro i
  rw [Nat.testBit_or, Nat.testBit_two_pow]
  by_cases e : k = i
  · subst e
    simp [h]
  · simp [e]
theorem updN_id {u : Nat → Nat} {k : Nat} : updN u k (u k) = u := by
  funext j
  unfold updN
  split
  · rename_i h
    rw [h]
  · rfl
def sp_now (v : Nat → Int32) (u : Nat → Nat) (yd : Nat) (w : Int32) : Int32 := if w = 0 then v 0 else if w = 1 then v 1 else if w = 2 then v 2 else if w = 3 then nI yd else if w = 4 then nI (u 3) else if w = 5 then nI (u 4) else -1
def sp_count (n : Nat → Nat) (a b l : Nat) (w : Int32) : Int32 := if w = 0 then nI (n 0) else if w = 1 then nI (n 1) else if w = 2 then nI (n 2) else if w = 3 then nI a else if w = 4 then nI b else if w = 5 then nI l else -1
set_option maxRecDepth 20000 in
/-- endRound(crew) -/
theorem c_endRound_5 (d : Nat) (n : Nat → Nat) (c : Nat → Nat → Nat) (v : Nat → Int32) (u : Nat → Nat) (yd : Nat) (st : mSt) (hX : X5 st n c) (hB : CB n c) (hN : N21 st v u yd) (hU : ∀ j, 3 ≤ j → j < 12 → u j < 256) (hyd : yd ≤ n 2) : ∃ (s : mSt), mMC mT (d + 2) 52 [.ref 21, .ref 5] st (some (.int (nI (slow (c 1) (u 3) (n 0))))) s ∧ N21 s (en_v n c v u) (en_u u) yd ∧ Fr [21, 22, 23] st s := by
  suffices H : ∀ Q : Option Value → mSt → Prop, (∀ (s : mSt), (N21 s (en_v n c v u) (en_u u) yd ∧ Fr [21, 22, 23] st s) → Q (some (.int (nI (slow (c 1) (u 3) (n 0))))) s) → mW (mMC mT (d + 1)) (0, fun _ => 0) (mAtL P_X5_endRound) (some .int) Q 0 [some (.ref 21), some (.ref 5), none, none] [] st by
    obtain ⟨_, _, ⟨s, rfl, rfl, hp⟩, hw⟩ := mW_ex (H (fun vv tt => ∃ (s : mSt),  vv = some (.int (nI (slow (c 1) (u 3) (n 0)))) ∧ s = tt ∧ N21 s (en_v n c v u) (en_u u) yd ∧ Fr [21, 22, 23] st s) (fun s hp => ⟨s, rfl, rfl, hp⟩))
    exact ⟨s, mI_X5_endRound (d := d + 1) (Nat.le_of_ble_eq_true rfl) hw, hp⟩
  intro Q hq
  obtain ⟨hb0, hb1, hb2, hbd, hbs, hby⟩ := id hB
  refine w_blk 4 (pc' := 4) (ls' := [some (.ref 21), some (.ref 5), some (.int 0), some (.int 0)]) (sk' := []) (st' := st) (fun _ h => h) ?_
  have h3 := hU 3 (by omega) (by omega)
  have hsl : ∀ k, k ≤ n 0 → slow (c 1) (u 3) k ≤ 9 := fun k hk => slow_le k (fun i hi => (hbd i (by omega)).2.2.2.1)
  have key : ∀ (m k : Nat), k + m = n 0 → mW (mMC mT (d + 1)) (0, fun _ => 0) (mAtL P_X5_endRound) (some .int) Q 4 [some (.ref 21), some (.ref 5), some (.int (nI (slow (c 1) (u 3) k))), some (.int (nI k))] [] st := by
    intro m
    induction m with
    | zero =>
      intro k hk
      obtain rfl : k = n 0 := by omega
      refine w_blk 3 (pc' := 9) (ls' := [some (.ref 21), some (.ref 5), some (.int (nI (slow (c 1) (u 3) (n 0)))), some (.int (nI (n 0)))]) (sk' := [.int (st.1 5 0), .int (nI (n 0))]) (st' := st) (fun _ h => h) ?_
      rw [hX.1]
      refine w_cmp_ge rfl (fun _ => ?_) (fun hno => absurd (Int32.le_refl _) hno)
      refine w_blk 3 (pc' := 47) (ls' := [some (.ref 21), some (.ref 5), some (.int (nI (slow (c 1) (u 3) (n 0)))), some (.int (nI (n 0)))]) (sk' := [.int (st.1 21 0), .ref 21]) (st' := st) (fun _ h => h) ?_
      rw [hN.1]
      refine w_blk 3 (pc' := 52) (ls' := [some (.ref 21), some (.ref 5), some (.int (nI (slow (c 1) (u 3) (n 0)))), some (.int (nI (n 0)))]) (sk' := []) (st' := ((mU st.1 21 0 ((v 0) + 1)), st.2)) (fun _ h => h) ?_
      have hN_2 : N21 ((mU st.1 21 0 ((v 0) + 1)), st.2) (updI v 0 (v 0 + 1)) u yd := N21_rd hN _
      have hf_3 : Fr [21, 22, 23] st ((mU st.1 21 0 ((v 0) + 1)), st.2) := (Fr.trans (Fr.rf : Fr [21, 22, 23] st st) (Fr.mU (by decide)))
      generalize ((mU st.1 21 0 ((v 0) + 1)), st.2) = s1 at hN_2 hf_3 ⊢
      refine w_blk 3 (pc' := 57) (ls' := [some (.ref 21), some (.ref 5), some (.int (nI (slow (c 1) (u 3) (n 0)))), some (.int (nI (n 0)))]) (sk' := [.int (s1.1 21 1), .ref 21]) (st' := s1) (fun _ h => h) ?_
      rw [(show s1.1 21 1 = v 1 from hN_2.2.1)]
      refine w_blk 3 (pc' := 62) (ls' := [some (.ref 21), some (.ref 5), some (.int (nI (slow (c 1) (u 3) (n 0)))), some (.int (nI (n 0)))]) (sk' := []) (st' := ((mU s1.1 21 1 ((v 1) + (nI (slow (c 1) (u 3) (n 0))))), s1.2)) (fun _ h => h) ?_
      have hN_5 : N21 ((mU s1.1 21 1 ((v 1) + (nI (slow (c 1) (u 3) (n 0))))), s1.2) (en_v n c v u) u yd := N21_bt hN_2 _
      have hf_6 : Fr [21, 22, 23] st ((mU s1.1 21 1 ((v 1) + (nI (slow (c 1) (u 3) (n 0))))), s1.2) := (Fr.trans hf_3 (Fr.mU (by decide)))
      generalize ((mU s1.1 21 1 ((v 1) + (nI (slow (c 1) (u 3) (n 0))))), s1.2) = s4 at hN_5 hf_6 ⊢
      refine w_blk 3 (pc' := 67) (ls' := [some (.ref 21), some (.ref 5), some (.int (nI (slow (c 1) (u 3) (n 0)))), some (.int (nI (n 0)))]) (sk' := []) (st' := ((mU s4.1 21 4 0), s4.2)) (fun _ h => h) ?_
      have hN_8 : N21 ((mU s4.1 21 4 0), s4.2) (en_v n c v u) (updN u 3 0) yd := N21_who hN_5 0
      have hf_9 : Fr [21, 22, 23] st ((mU s4.1 21 4 0), s4.2) := (Fr.trans hf_6 (Fr.mU (by decide)))
      generalize ((mU s4.1 21 4 0), s4.2) = s7 at hN_8 hf_9 ⊢
      refine w_blk 3 (pc' := 72) (ls' := [some (.ref 21), some (.ref 5), some (.int (nI (slow (c 1) (u 3) (n 0)))), some (.int (nI (n 0)))]) (sk' := []) (st' := ((mU s7.1 21 5 0), s7.2)) (fun _ h => h) ?_
      have hN_11 : N21 ((mU s7.1 21 5 0), s7.2) (en_v n c v u) (en_u u) yd := N21_wth hN_8 0
      have hf_12 : Fr [21, 22, 23] st ((mU s7.1 21 5 0), s7.2) := (Fr.trans hf_9 (Fr.mU (by decide)))
      generalize ((mU s7.1 21 5 0), s7.2) = s10 at hN_11 hf_12 ⊢
      refine w_blk 1 (pc' := 73) (ls' := [some (.ref 21), some (.ref 5), some (.int (nI (slow (c 1) (u 3) (n 0)))), some (.int (nI (n 0)))]) (sk' := [.int (nI (slow (c 1) (u 3) (n 0)))]) (st' := s10) (fun _ h => h) ?_
      exact w_iret rfl rfl rfl (hq _ ⟨hN_11, hf_12⟩)
    | succ m ih =>
      intro k hk
      have hk2 : k < n 0 := by omega
      have hsk := hsl k (by omega)
      have hpk := (hbd k hk2).2.2.2.1
      refine w_blk 3 (pc' := 9) (ls' := [some (.ref 21), some (.ref 5), some (.int (nI (slow (c 1) (u 3) k))), some (.int (nI k))]) (sk' := [.int (st.1 5 0), .int (nI k)]) (st' := st) (fun _ h => h) ?_
      rw [hX.1]
      refine w_cmp_ge rfl (fun hno => absurd hno (nI_ge hk2 (by omega))) (fun _ => ?_)
      refine w_blk 2 (pc' := 16) (ls' := [some (.ref 21), some (.ref 5), some (.int (nI (slow (c 1) (u 3) k))), some (.int (nI k))]) (sk' := [.int (st.1 21 4)]) (st' := st) (fun _ h => h) ?_
      rw [hN.2.2.2.2.1]
      refine w_blk 1 (pc' := 17) (ls' := [some (.ref 21), some (.ref 5), some (.int (nI (slow (c 1) (u 3) k))), some (.int (nI k))]) (sk' := [.int (nI k), .int (nI (u 3))]) (st' := st) (fun _ h => h) ?_
      refine w_callS (As := [.int (nI (u 3)), .int (nI k)]) (rest := []) rfl rfl rfl (Nat.le_of_ble_eq_true rfl) (Nat.le_of_ble_eq_true rfl) (c_hasBit (d + 0) (nI (u 3)) (nI k) st) ?_
      rw [show (pI (bitP (nI (u 3)) (nI k))) = pI (Nat.testBit (u 3) k = true) from pI_cong (bitP_nI (n := u 3) (k := k) (by omega) (by omega))]
      refine w_if_eq rfl (fun h1 => ?_) (fun h1 => ?_)
      · replace h1 := pI_eq0.mp h1
        refine w_blk 1 (pc' := 39) (ls' := [some (.ref 21), some (.ref 5), some (.int (nI (slow (c 1) (u 3) k))), some (.int ((nI k) + 1))]) (sk' := []) (st' := st) (fun _ h => h) ?_
        rw [show ((nI k) + 1) = nI (k + 1) from nI_add k 1]
        refine w_blk 1 (pc' := 4) (ls' := [some (.ref 21), some (.ref 5), some (.int (nI (slow (c 1) (u 3) k))), some (.int (nI (k + 1)))]) (sk' := []) (st' := st) (fun _ h => h) ?_
        exact (by have hh := ih (k + 1) (by omega); rw [show slow (c 1) (u 3) (k + 1) = slow (c 1) (u 3) k from if_neg h1] at hh; exact hh)
      · replace h1 := pI_ne.mp h1
        refine w_blk 4 (pc' := 29) (ls' := [some (.ref 21), some (.ref 5), some (.int (nI (slow (c 1) (u 3) k))), some (.int (nI k))]) (sk' := [.int (nI k), .ref 7, .int (nI (slow (c 1) (u 3) k))]) (st' := st) (fun _ h => h) ?_
        refine w_callS (As := [.ref 7, .int (nI k)]) (rest := [.int (nI (slow (c 1) (u 3) k))]) rfl rfl rfl (Nat.le_of_ble_eq_true rfl) (Nat.le_of_ble_eq_true rfl) (c_cellK (d + 0) 7 6 k st (by omega) (by decide) rfl) ?_
        rw [(hX.2.2.2.1 k (by omega)).2.1]
        refine w_callS (As := [.int (nI (slow (c 1) (u 3) k)), .int (nI (c 1 k))]) (rest := []) rfl rfl rfl (Nat.le_of_ble_eq_true rfl) (Nat.le_of_ble_eq_true rfl) (c_maxK (d + 0) (slow (c 1) (u 3) k) (c 1 k) st (by omega) (by omega)) ?_
        refine w_blk 2 (pc' := 39) (ls' := [some (.ref 21), some (.ref 5), some (.int (nI (max (slow (c 1) (u 3) k) (c 1 k)))), some (.int ((nI k) + 1))]) (sk' := []) (st' := st) (fun _ h => h) ?_
        rw [show ((nI k) + 1) = nI (k + 1) from nI_add k 1]
        refine w_blk 1 (pc' := 4) (ls' := [some (.ref 21), some (.ref 5), some (.int (nI (max (slow (c 1) (u 3) k) (c 1 k)))), some (.int (nI (k + 1)))]) (sk' := []) (st' := st) (fun _ h => h) ?_
        exact (by have hh := ih (k + 1) (by omega); rw [show slow (c 1) (u 3) (k + 1) = max (slow (c 1) (u 3) k) (c 1 k) from if_pos h1] at hh; exact hh)
  exact key (n 0 - 0) 0 (by omega)
set_option maxRecDepth 20000 in
/-- endRound(crew) -/
theorem c_endRound_13 (d : Nat) (n : Nat → Nat) (c : Nat → Nat → Nat) (v : Nat → Int32) (u : Nat → Nat) (yd : Nat) (st : mSt) (hX : X13 st n c) (hB : CB n c) (hN : N21 st v u yd) (hU : ∀ j, 3 ≤ j → j < 12 → u j < 256) (hyd : yd ≤ n 2) : ∃ (s : mSt), mMC mT (d + 2) 52 [.ref 21, .ref 13] st (some (.int (nI (slow (c 1) (u 3) (n 0))))) s ∧ N21 s (en_v n c v u) (en_u u) yd ∧ Fr [21, 22, 23] st s := by
  suffices H : ∀ Q : Option Value → mSt → Prop, (∀ (s : mSt), (N21 s (en_v n c v u) (en_u u) yd ∧ Fr [21, 22, 23] st s) → Q (some (.int (nI (slow (c 1) (u 3) (n 0))))) s) → mW (mMC mT (d + 1)) (0, fun _ => 0) (mAtL P_X5_endRound) (some .int) Q 0 [some (.ref 21), some (.ref 13), none, none] [] st by
    obtain ⟨_, _, ⟨s, rfl, rfl, hp⟩, hw⟩ := mW_ex (H (fun vv tt => ∃ (s : mSt),  vv = some (.int (nI (slow (c 1) (u 3) (n 0)))) ∧ s = tt ∧ N21 s (en_v n c v u) (en_u u) yd ∧ Fr [21, 22, 23] st s) (fun s hp => ⟨s, rfl, rfl, hp⟩))
    exact ⟨s, mI_X5_endRound (d := d + 1) (Nat.le_of_ble_eq_true rfl) hw, hp⟩
  intro Q hq
  obtain ⟨hb0, hb1, hb2, hbd, hbs, hby⟩ := id hB
  refine w_blk 4 (pc' := 4) (ls' := [some (.ref 21), some (.ref 13), some (.int 0), some (.int 0)]) (sk' := []) (st' := st) (fun _ h => h) ?_
  have h3 := hU 3 (by omega) (by omega)
  have hsl : ∀ k, k ≤ n 0 → slow (c 1) (u 3) k ≤ 9 := fun k hk => slow_le k (fun i hi => (hbd i (by omega)).2.2.2.1)
  have key : ∀ (m k : Nat), k + m = n 0 → mW (mMC mT (d + 1)) (0, fun _ => 0) (mAtL P_X5_endRound) (some .int) Q 4 [some (.ref 21), some (.ref 13), some (.int (nI (slow (c 1) (u 3) k))), some (.int (nI k))] [] st := by
    intro m
    induction m with
    | zero =>
      intro k hk
      obtain rfl : k = n 0 := by omega
      refine w_blk 3 (pc' := 9) (ls' := [some (.ref 21), some (.ref 13), some (.int (nI (slow (c 1) (u 3) (n 0)))), some (.int (nI (n 0)))]) (sk' := [.int (st.1 13 0), .int (nI (n 0))]) (st' := st) (fun _ h => h) ?_
      rw [hX.1]
      refine w_cmp_ge rfl (fun _ => ?_) (fun hno => absurd (Int32.le_refl _) hno)
      refine w_blk 3 (pc' := 47) (ls' := [some (.ref 21), some (.ref 13), some (.int (nI (slow (c 1) (u 3) (n 0)))), some (.int (nI (n 0)))]) (sk' := [.int (st.1 21 0), .ref 21]) (st' := st) (fun _ h => h) ?_
      rw [hN.1]
      refine w_blk 3 (pc' := 52) (ls' := [some (.ref 21), some (.ref 13), some (.int (nI (slow (c 1) (u 3) (n 0)))), some (.int (nI (n 0)))]) (sk' := []) (st' := ((mU st.1 21 0 ((v 0) + 1)), st.2)) (fun _ h => h) ?_
      have hN_2 : N21 ((mU st.1 21 0 ((v 0) + 1)), st.2) (updI v 0 (v 0 + 1)) u yd := N21_rd hN _
      have hf_3 : Fr [21, 22, 23] st ((mU st.1 21 0 ((v 0) + 1)), st.2) := (Fr.trans (Fr.rf : Fr [21, 22, 23] st st) (Fr.mU (by decide)))
      generalize ((mU st.1 21 0 ((v 0) + 1)), st.2) = s1 at hN_2 hf_3 ⊢
      refine w_blk 3 (pc' := 57) (ls' := [some (.ref 21), some (.ref 13), some (.int (nI (slow (c 1) (u 3) (n 0)))), some (.int (nI (n 0)))]) (sk' := [.int (s1.1 21 1), .ref 21]) (st' := s1) (fun _ h => h) ?_
      rw [(show s1.1 21 1 = v 1 from hN_2.2.1)]
      refine w_blk 3 (pc' := 62) (ls' := [some (.ref 21), some (.ref 13), some (.int (nI (slow (c 1) (u 3) (n 0)))), some (.int (nI (n 0)))]) (sk' := []) (st' := ((mU s1.1 21 1 ((v 1) + (nI (slow (c 1) (u 3) (n 0))))), s1.2)) (fun _ h => h) ?_
      have hN_5 : N21 ((mU s1.1 21 1 ((v 1) + (nI (slow (c 1) (u 3) (n 0))))), s1.2) (en_v n c v u) u yd := N21_bt hN_2 _
      have hf_6 : Fr [21, 22, 23] st ((mU s1.1 21 1 ((v 1) + (nI (slow (c 1) (u 3) (n 0))))), s1.2) := (Fr.trans hf_3 (Fr.mU (by decide)))
      generalize ((mU s1.1 21 1 ((v 1) + (nI (slow (c 1) (u 3) (n 0))))), s1.2) = s4 at hN_5 hf_6 ⊢
      refine w_blk 3 (pc' := 67) (ls' := [some (.ref 21), some (.ref 13), some (.int (nI (slow (c 1) (u 3) (n 0)))), some (.int (nI (n 0)))]) (sk' := []) (st' := ((mU s4.1 21 4 0), s4.2)) (fun _ h => h) ?_
      have hN_8 : N21 ((mU s4.1 21 4 0), s4.2) (en_v n c v u) (updN u 3 0) yd := N21_who hN_5 0
      have hf_9 : Fr [21, 22, 23] st ((mU s4.1 21 4 0), s4.2) := (Fr.trans hf_6 (Fr.mU (by decide)))
      generalize ((mU s4.1 21 4 0), s4.2) = s7 at hN_8 hf_9 ⊢
      refine w_blk 3 (pc' := 72) (ls' := [some (.ref 21), some (.ref 13), some (.int (nI (slow (c 1) (u 3) (n 0)))), some (.int (nI (n 0)))]) (sk' := []) (st' := ((mU s7.1 21 5 0), s7.2)) (fun _ h => h) ?_
      have hN_11 : N21 ((mU s7.1 21 5 0), s7.2) (en_v n c v u) (en_u u) yd := N21_wth hN_8 0
      have hf_12 : Fr [21, 22, 23] st ((mU s7.1 21 5 0), s7.2) := (Fr.trans hf_9 (Fr.mU (by decide)))
      generalize ((mU s7.1 21 5 0), s7.2) = s10 at hN_11 hf_12 ⊢
      refine w_blk 1 (pc' := 73) (ls' := [some (.ref 21), some (.ref 13), some (.int (nI (slow (c 1) (u 3) (n 0)))), some (.int (nI (n 0)))]) (sk' := [.int (nI (slow (c 1) (u 3) (n 0)))]) (st' := s10) (fun _ h => h) ?_
      exact w_iret rfl rfl rfl (hq _ ⟨hN_11, hf_12⟩)
    | succ m ih =>
      intro k hk
      have hk2 : k < n 0 := by omega
      have hsk := hsl k (by omega)
      have hpk := (hbd k hk2).2.2.2.1
      refine w_blk 3 (pc' := 9) (ls' := [some (.ref 21), some (.ref 13), some (.int (nI (slow (c 1) (u 3) k))), some (.int (nI k))]) (sk' := [.int (st.1 13 0), .int (nI k)]) (st' := st) (fun _ h => h) ?_
      rw [hX.1]
      refine w_cmp_ge rfl (fun hno => absurd hno (nI_ge hk2 (by omega))) (fun _ => ?_)
      refine w_blk 2 (pc' := 16) (ls' := [some (.ref 21), some (.ref 13), some (.int (nI (slow (c 1) (u 3) k))), some (.int (nI k))]) (sk' := [.int (st.1 21 4)]) (st' := st) (fun _ h => h) ?_
      rw [hN.2.2.2.2.1]
      refine w_blk 1 (pc' := 17) (ls' := [some (.ref 21), some (.ref 13), some (.int (nI (slow (c 1) (u 3) k))), some (.int (nI k))]) (sk' := [.int (nI k), .int (nI (u 3))]) (st' := st) (fun _ h => h) ?_
      refine w_callS (As := [.int (nI (u 3)), .int (nI k)]) (rest := []) rfl rfl rfl (Nat.le_of_ble_eq_true rfl) (Nat.le_of_ble_eq_true rfl) (c_hasBit (d + 0) (nI (u 3)) (nI k) st) ?_
      rw [show (pI (bitP (nI (u 3)) (nI k))) = pI (Nat.testBit (u 3) k = true) from pI_cong (bitP_nI (n := u 3) (k := k) (by omega) (by omega))]
      refine w_if_eq rfl (fun h1 => ?_) (fun h1 => ?_)
      · replace h1 := pI_eq0.mp h1
        refine w_blk 1 (pc' := 39) (ls' := [some (.ref 21), some (.ref 13), some (.int (nI (slow (c 1) (u 3) k))), some (.int ((nI k) + 1))]) (sk' := []) (st' := st) (fun _ h => h) ?_
        rw [show ((nI k) + 1) = nI (k + 1) from nI_add k 1]
        refine w_blk 1 (pc' := 4) (ls' := [some (.ref 21), some (.ref 13), some (.int (nI (slow (c 1) (u 3) k))), some (.int (nI (k + 1)))]) (sk' := []) (st' := st) (fun _ h => h) ?_
        exact (by have hh := ih (k + 1) (by omega); rw [show slow (c 1) (u 3) (k + 1) = slow (c 1) (u 3) k from if_neg h1] at hh; exact hh)
      · replace h1 := pI_ne.mp h1
        refine w_blk 4 (pc' := 29) (ls' := [some (.ref 21), some (.ref 13), some (.int (nI (slow (c 1) (u 3) k))), some (.int (nI k))]) (sk' := [.int (nI k), .ref 15, .int (nI (slow (c 1) (u 3) k))]) (st' := st) (fun _ h => h) ?_
        refine w_callS (As := [.ref 15, .int (nI k)]) (rest := [.int (nI (slow (c 1) (u 3) k))]) rfl rfl rfl (Nat.le_of_ble_eq_true rfl) (Nat.le_of_ble_eq_true rfl) (c_cellK (d + 0) 15 6 k st (by omega) (by decide) rfl) ?_
        rw [(hX.2.2.2.1 k (by omega)).2.1]
        refine w_callS (As := [.int (nI (slow (c 1) (u 3) k)), .int (nI (c 1 k))]) (rest := []) rfl rfl rfl (Nat.le_of_ble_eq_true rfl) (Nat.le_of_ble_eq_true rfl) (c_maxK (d + 0) (slow (c 1) (u 3) k) (c 1 k) st (by omega) (by omega)) ?_
        refine w_blk 2 (pc' := 39) (ls' := [some (.ref 21), some (.ref 13), some (.int (nI (max (slow (c 1) (u 3) k) (c 1 k)))), some (.int ((nI k) + 1))]) (sk' := []) (st' := st) (fun _ h => h) ?_
        rw [show ((nI k) + 1) = nI (k + 1) from nI_add k 1]
        refine w_blk 1 (pc' := 4) (ls' := [some (.ref 21), some (.ref 13), some (.int (nI (max (slow (c 1) (u 3) k) (c 1 k)))), some (.int (nI (k + 1)))]) (sk' := []) (st' := st) (fun _ h => h) ?_
        exact (by have hh := ih (k + 1) (by omega); rw [show slow (c 1) (u 3) (k + 1) = max (slow (c 1) (u 3) k) (c 1 k) from if_pos h1] at hh; exact hh)
  exact key (n 0 - 0) 0 (by omega)
set_option maxRecDepth 20000 in
/-- ends -/
theorem x_ends_5 (d : Nat) (n : Nat → Nat) (c : Nat → Nat → Nat) (v : Nat → Int32) (u : Nat → Nat) (yd : Nat) (st : mSt) (hcw : st.1 0 1 = nI 5) (hX : X5 st n c) (hB : CB n c) (hN : N21 st v u yd) (hU : ∀ j, 3 ≤ j → j < 12 → u j < 256) (hyd : yd ≤ n 2) : ∃ (s : mSt), mMC mT (d + 3) 93 [.ref 0] st (some (.int (nI (slow (c 1) (u 3) (n 0))))) s ∧ N21 s (en_v n c v u) (en_u u) yd ∧ Fr [21, 22, 23] st s := by
  suffices H : ∀ Q : Option Value → mSt → Prop, (∀ (s : mSt), (N21 s (en_v n c v u) (en_u u) yd ∧ Fr [21, 22, 23] st s) → Q (some (.int (nI (slow (c 1) (u 3) (n 0))))) s) → mW (mMC mT (d + 2)) (0, fun _ => 0) (mAtL P_X9_ends) (some .int) Q 0 [some (.ref 0)] [] st by
    obtain ⟨_, _, ⟨s, rfl, rfl, hp⟩, hw⟩ := mW_ex (H (fun vv tt => ∃ (s : mSt),  vv = some (.int (nI (slow (c 1) (u 3) (n 0)))) ∧ s = tt ∧ N21 s (en_v n c v u) (en_u u) yd ∧ Fr [21, 22, 23] st s) (fun s hp => ⟨s, rfl, rfl, hp⟩))
    exact ⟨s, mI_X9_ends (d := d + 2) (Nat.le_of_ble_eq_true rfl) hw, hp⟩
  intro Q hq
  have hcr : (st.1 0 1).toNatClampNeg = 5 := by rw [hcw]; rfl
  refine w_blk 3 (pc' := 5) (ls' := [some (.ref 0)]) (sk' := [.ref 0, .ref 21]) (st' := st) (fun _ h => h) ?_
  refine w_blk 1 (pc' := 8) (ls' := [some (.ref 0)]) (sk' := [.ref (Int32.toNatClampNeg (st.1 0 1)), .ref 21]) (st' := st) (fun _ h => h) ?_
  rw [hcr]
  obtain ⟨s1, hc_2, hN_3, hf_4⟩ := c_endRound_5 (d + 0) n c v u yd st hX hB hN hU hyd
  refine w_callV (As := [.ref 21, .ref 5]) (rest := []) rfl rfl rfl (Nat.le_of_ble_eq_true rfl) (Nat.le_of_ble_eq_true rfl) (by first | exact Or.inl ⟨rfl, rfl⟩ | exact Or.inr ⟨rfl, rfl⟩) hc_2 ?_
  exact w_iret rfl rfl rfl (hq _ ⟨hN_3, hf_4⟩)
set_option maxRecDepth 20000 in
/-- ends -/
theorem x_ends_13 (d : Nat) (n : Nat → Nat) (c : Nat → Nat → Nat) (v : Nat → Int32) (u : Nat → Nat) (yd : Nat) (st : mSt) (hcw : st.1 0 1 = nI 13) (hX : X13 st n c) (hB : CB n c) (hN : N21 st v u yd) (hU : ∀ j, 3 ≤ j → j < 12 → u j < 256) (hyd : yd ≤ n 2) : ∃ (s : mSt), mMC mT (d + 3) 93 [.ref 0] st (some (.int (nI (slow (c 1) (u 3) (n 0))))) s ∧ N21 s (en_v n c v u) (en_u u) yd ∧ Fr [21, 22, 23] st s := by
  suffices H : ∀ Q : Option Value → mSt → Prop, (∀ (s : mSt), (N21 s (en_v n c v u) (en_u u) yd ∧ Fr [21, 22, 23] st s) → Q (some (.int (nI (slow (c 1) (u 3) (n 0))))) s) → mW (mMC mT (d + 2)) (0, fun _ => 0) (mAtL P_X9_ends) (some .int) Q 0 [some (.ref 0)] [] st by
    obtain ⟨_, _, ⟨s, rfl, rfl, hp⟩, hw⟩ := mW_ex (H (fun vv tt => ∃ (s : mSt),  vv = some (.int (nI (slow (c 1) (u 3) (n 0)))) ∧ s = tt ∧ N21 s (en_v n c v u) (en_u u) yd ∧ Fr [21, 22, 23] st s) (fun s hp => ⟨s, rfl, rfl, hp⟩))
    exact ⟨s, mI_X9_ends (d := d + 2) (Nat.le_of_ble_eq_true rfl) hw, hp⟩
  intro Q hq
  have hcr : (st.1 0 1).toNatClampNeg = 13 := by rw [hcw]; rfl
  refine w_blk 3 (pc' := 5) (ls' := [some (.ref 0)]) (sk' := [.ref 0, .ref 21]) (st' := st) (fun _ h => h) ?_
  refine w_blk 1 (pc' := 8) (ls' := [some (.ref 0)]) (sk' := [.ref (Int32.toNatClampNeg (st.1 0 1)), .ref 21]) (st' := st) (fun _ h => h) ?_
  rw [hcr]
  obtain ⟨s1, hc_2, hN_3, hf_4⟩ := c_endRound_13 (d + 0) n c v u yd st hX hB hN hU hyd
  refine w_callV (As := [.ref 21, .ref 13]) (rest := []) rfl rfl rfl (Nat.le_of_ble_eq_true rfl) (Nat.le_of_ble_eq_true rfl) (by first | exact Or.inl ⟨rfl, rfl⟩ | exact Or.inr ⟨rfl, rfl⟩) hc_2 ?_
  exact w_iret rfl rfl rfl (hq _ ⟨hN_3, hf_4⟩)
set_option maxRecDepth 20000 in
/-- breaks -/
theorem x_breaks_5 (d : Nat) (n : Nat → Nat) (c : Nat → Nat → Nat) (v : Nat → Int32) (u : Nat → Nat) (yd : Nat) (x : Int32) (st : mSt) (hcw : st.1 0 1 = nI 5) (hX : X5 st n c) (hB : CB n c) (hN : N21 st v u yd) (hU : ∀ j, 3 ≤ j → j < 12 → u j < 256) (hyd : yd ≤ n 2) : ∃ (s : mSt), mMC mT (d + 3) 94 [.ref 0, .int x] st (some (.int (sp_breaks n u x))) s ∧ N21 s v (br_u n u x) yd ∧ Fr [21, 22, 23] st s := by
  suffices H : ∀ Q : Option Value → mSt → Prop, (∀ (s : mSt), (N21 s v (br_u n u x) yd ∧ Fr [21, 22, 23] st s) → Q (some (.int (sp_breaks n u x))) s) → mW (mMC mT (d + 2)) (0, fun _ => 0) (mAtL P_X9_breaks) (some .int) Q 0 [some (.ref 0), some (.int x)] [] st by
    obtain ⟨_, _, ⟨s, rfl, rfl, hp⟩, hw⟩ := mW_ex (H (fun vv tt => ∃ (s : mSt),  vv = some (.int (sp_breaks n u x)) ∧ s = tt ∧ N21 s v (br_u n u x) yd ∧ Fr [21, 22, 23] st s) (fun s hp => ⟨s, rfl, rfl, hp⟩))
    exact ⟨s, mI_X9_breaks (d := d + 2) (Nat.le_of_ble_eq_true rfl) hw, hp⟩
  intro Q hq
  have hcr : (st.1 0 1).toNatClampNeg = 5 := by rw [hcw]; rfl
  obtain ⟨hb0, hb1, hb2, hbd, hbs, hby⟩ := id hB
  refine w_blk 1 (pc' := 1) (ls' := [some (.ref 0), some (.int x)]) (sk' := [.ref 0]) (st' := st) (fun _ h => h) ?_
  refine w_blk 1 (pc' := 4) (ls' := [some (.ref 0), some (.int x)]) (sk' := [.ref (Int32.toNatClampNeg (st.1 0 1))]) (st' := st) (fun _ h => h) ?_
  rw [hcr]
  refine w_blk 1 (pc' := 5) (ls' := [some (.ref 0), some (.int x)]) (sk' := [.int x, .ref 5]) (st' := st) (fun _ h => h) ?_
  refine w_callV (As := [.ref 5, .int x]) (rest := []) rfl rfl rfl (Nat.le_of_ble_eq_true rfl) (Nat.le_of_ble_eq_true rfl) (by first | exact Or.inl ⟨rfl, rfl⟩ | exact Or.inr ⟨rfl, rfl⟩) (c_hasSpade_5 (d + 1) x st) ?_
  rw [hX.2.1]
  refine w_if_ne rfl (fun h1 => ?_) (fun h1 => ?_)
  · replace h1 := pI_ne.mp h1
    obtain ⟨k, hk, rfl⟩ := nI_in2 (by omega) h1
    refine w_blk 3 (pc' := 20) (ls' := [some (.ref 0), some (.int (nI k))]) (sk' := [.int (st.1 21 6)]) (st' := st) (fun _ h => h) ?_
    rw [hN.2.2.2.2.2.2.1]
    refine w_blk 1 (pc' := 21) (ls' := [some (.ref 0), some (.int (nI k))]) (sk' := [.int (nI k), .int (nI (u 5))]) (st' := st) (fun _ h => h) ?_
    refine w_callS (As := [.int (nI (u 5)), .int (nI k)]) (rest := []) rfl rfl rfl (Nat.le_of_ble_eq_true rfl) (Nat.le_of_ble_eq_true rfl) (c_hasBit (d + 1) (nI (u 5)) (nI k) st) ?_
    rw [show (pI (bitP (nI (u 5)) (nI k))) = pI (Nat.testBit (u 5) k = true) from pI_cong (bitP_nI (n := u 5) (k := k) (by omega) (by have := hU 5 (by omega) (by omega); omega))]
    refine w_if_eq rfl (fun h2 => ?_) (fun h2 => ?_)
    · replace h2 := pI_eq0.mp h2
      refine w_blk 4 (pc' := 37) (ls' := [some (.ref 0), some (.int (nI k))]) (sk' := [.int (st.1 21 6), .ref 21]) (st' := st) (fun _ h => h) ?_
      rw [hN.2.2.2.2.2.2.1]
      refine w_blk 3 (pc' := 40) (ls' := [some (.ref 0), some (.int (nI k))]) (sk' := [.int (1 <<< ((nI k) &&& 31)), .int (nI (u 5)), .ref 21]) (st' := st) (fun _ h => h) ?_
      rw [show (1 <<< ((nI k) &&& 31)) = nI (2 ^ k) from nI_shl1 (by omega)]
      refine w_blk 1 (pc' := 41) (ls' := [some (.ref 0), some (.int (nI k))]) (sk' := [.int ((nI (u 5)) ||| (nI (2 ^ k))), .ref 21]) (st' := st) (fun _ h => h) ?_
      rw [show ((nI (u 5)) ||| (nI (2 ^ k))) = nI ((u 5) ||| (2 ^ k)) from nI_or (u 5) (2 ^ k)]
      refine w_blk 2 (pc' := 45) (ls' := [some (.ref 0), some (.int (nI k))]) (sk' := [.int 1]) (st' := ((mU st.1 21 6 (nI ((u 5) ||| (2 ^ k)))), st.2)) (fun _ h => h) ?_
      have hok : ok1 n (nI k) := nI_in3 (by omega) hk
      have hN_2 : N21 ((mU st.1 21 6 (nI ((u 5) ||| (2 ^ k)))), st.2) v (updN u 5 (u 5 ||| 2 ^ k)) yd := N21_brk hN _
      have hf_3 : Fr [21, 22, 23] st ((mU st.1 21 6 (nI ((u 5) ||| (2 ^ k)))), st.2) := (Fr.trans (Fr.rf : Fr [21, 22, 23] st st) (Fr.mU (by decide)))
      generalize ((mU st.1 21 6 (nI ((u 5) ||| (2 ^ k)))), st.2) = s1 at hN_2 hf_3 ⊢
      rw [show sp_breaks n u (nI k) = 1 from (if_pos hok).trans (if_neg (by rw [nI_clamp (show k < 2 ^ 31 by omega)]; exact h2)), show br_u n u (nI k) = updN u 5 (u 5 ||| 2 ^ k) from (if_pos hok).trans (by rw [nI_clamp (show k < 2 ^ 31 by omega)])] at hq
      exact w_iret rfl rfl rfl (hq _ ⟨hN_2, hf_3⟩)
    · replace h2 := pI_ne.mp h2
      refine w_blk 1 (pc' := 28) (ls' := [some (.ref 0), some (.int (nI k))]) (sk' := [.int 0]) (st' := st) (fun _ h => h) ?_
      have hok : ok1 n (nI k) := nI_in3 (by omega) hk
      rw [show sp_breaks n u (nI k) = 0 from (if_pos hok).trans (if_pos (by rw [nI_clamp (show k < 2 ^ 31 by omega)]; exact h2)), show br_u n u (nI k) = u from (if_pos hok).trans (by rw [nI_clamp (show k < 2 ^ 31 by omega), or_same h2, updN_id])] at hq
      exact w_iret rfl rfl rfl (hq _ ⟨hN, Fr.rf⟩)
  · replace h1 := pI_eq0.mp (Decidable.not_not.mp h1)
    refine w_blk 1 (pc' := 12) (ls' := [some (.ref 0), some (.int x)]) (sk' := [.int (-1)]) (st' := st) (fun _ h => h) ?_
    rw [show sp_breaks n u x = -1 from if_neg h1, show br_u n u x = u from if_neg h1] at hq
    exact w_iret rfl rfl rfl (hq _ ⟨hN, Fr.rf⟩)
set_option maxRecDepth 20000 in
/-- breaks -/
theorem x_breaks_13 (d : Nat) (n : Nat → Nat) (c : Nat → Nat → Nat) (v : Nat → Int32) (u : Nat → Nat) (yd : Nat) (x : Int32) (st : mSt) (hcw : st.1 0 1 = nI 13) (hX : X13 st n c) (hB : CB n c) (hN : N21 st v u yd) (hU : ∀ j, 3 ≤ j → j < 12 → u j < 256) (hyd : yd ≤ n 2) : ∃ (s : mSt), mMC mT (d + 3) 94 [.ref 0, .int x] st (some (.int (sp_breaks n u x))) s ∧ N21 s v (br_u n u x) yd ∧ Fr [21, 22, 23] st s := by
  suffices H : ∀ Q : Option Value → mSt → Prop, (∀ (s : mSt), (N21 s v (br_u n u x) yd ∧ Fr [21, 22, 23] st s) → Q (some (.int (sp_breaks n u x))) s) → mW (mMC mT (d + 2)) (0, fun _ => 0) (mAtL P_X9_breaks) (some .int) Q 0 [some (.ref 0), some (.int x)] [] st by
    obtain ⟨_, _, ⟨s, rfl, rfl, hp⟩, hw⟩ := mW_ex (H (fun vv tt => ∃ (s : mSt),  vv = some (.int (sp_breaks n u x)) ∧ s = tt ∧ N21 s v (br_u n u x) yd ∧ Fr [21, 22, 23] st s) (fun s hp => ⟨s, rfl, rfl, hp⟩))
    exact ⟨s, mI_X9_breaks (d := d + 2) (Nat.le_of_ble_eq_true rfl) hw, hp⟩
  intro Q hq
  have hcr : (st.1 0 1).toNatClampNeg = 13 := by rw [hcw]; rfl
  obtain ⟨hb0, hb1, hb2, hbd, hbs, hby⟩ := id hB
  refine w_blk 1 (pc' := 1) (ls' := [some (.ref 0), some (.int x)]) (sk' := [.ref 0]) (st' := st) (fun _ h => h) ?_
  refine w_blk 1 (pc' := 4) (ls' := [some (.ref 0), some (.int x)]) (sk' := [.ref (Int32.toNatClampNeg (st.1 0 1))]) (st' := st) (fun _ h => h) ?_
  rw [hcr]
  refine w_blk 1 (pc' := 5) (ls' := [some (.ref 0), some (.int x)]) (sk' := [.int x, .ref 13]) (st' := st) (fun _ h => h) ?_
  refine w_callV (As := [.ref 13, .int x]) (rest := []) rfl rfl rfl (Nat.le_of_ble_eq_true rfl) (Nat.le_of_ble_eq_true rfl) (by first | exact Or.inl ⟨rfl, rfl⟩ | exact Or.inr ⟨rfl, rfl⟩) (c_hasSpade_13 (d + 1) x st) ?_
  rw [hX.2.1]
  refine w_if_ne rfl (fun h1 => ?_) (fun h1 => ?_)
  · replace h1 := pI_ne.mp h1
    obtain ⟨k, hk, rfl⟩ := nI_in2 (by omega) h1
    refine w_blk 3 (pc' := 20) (ls' := [some (.ref 0), some (.int (nI k))]) (sk' := [.int (st.1 21 6)]) (st' := st) (fun _ h => h) ?_
    rw [hN.2.2.2.2.2.2.1]
    refine w_blk 1 (pc' := 21) (ls' := [some (.ref 0), some (.int (nI k))]) (sk' := [.int (nI k), .int (nI (u 5))]) (st' := st) (fun _ h => h) ?_
    refine w_callS (As := [.int (nI (u 5)), .int (nI k)]) (rest := []) rfl rfl rfl (Nat.le_of_ble_eq_true rfl) (Nat.le_of_ble_eq_true rfl) (c_hasBit (d + 1) (nI (u 5)) (nI k) st) ?_
    rw [show (pI (bitP (nI (u 5)) (nI k))) = pI (Nat.testBit (u 5) k = true) from pI_cong (bitP_nI (n := u 5) (k := k) (by omega) (by have := hU 5 (by omega) (by omega); omega))]
    refine w_if_eq rfl (fun h2 => ?_) (fun h2 => ?_)
    · replace h2 := pI_eq0.mp h2
      refine w_blk 4 (pc' := 37) (ls' := [some (.ref 0), some (.int (nI k))]) (sk' := [.int (st.1 21 6), .ref 21]) (st' := st) (fun _ h => h) ?_
      rw [hN.2.2.2.2.2.2.1]
      refine w_blk 3 (pc' := 40) (ls' := [some (.ref 0), some (.int (nI k))]) (sk' := [.int (1 <<< ((nI k) &&& 31)), .int (nI (u 5)), .ref 21]) (st' := st) (fun _ h => h) ?_
      rw [show (1 <<< ((nI k) &&& 31)) = nI (2 ^ k) from nI_shl1 (by omega)]
      refine w_blk 1 (pc' := 41) (ls' := [some (.ref 0), some (.int (nI k))]) (sk' := [.int ((nI (u 5)) ||| (nI (2 ^ k))), .ref 21]) (st' := st) (fun _ h => h) ?_
      rw [show ((nI (u 5)) ||| (nI (2 ^ k))) = nI ((u 5) ||| (2 ^ k)) from nI_or (u 5) (2 ^ k)]
      refine w_blk 2 (pc' := 45) (ls' := [some (.ref 0), some (.int (nI k))]) (sk' := [.int 1]) (st' := ((mU st.1 21 6 (nI ((u 5) ||| (2 ^ k)))), st.2)) (fun _ h => h) ?_
      have hok : ok1 n (nI k) := nI_in3 (by omega) hk
      have hN_2 : N21 ((mU st.1 21 6 (nI ((u 5) ||| (2 ^ k)))), st.2) v (updN u 5 (u 5 ||| 2 ^ k)) yd := N21_brk hN _
      have hf_3 : Fr [21, 22, 23] st ((mU st.1 21 6 (nI ((u 5) ||| (2 ^ k)))), st.2) := (Fr.trans (Fr.rf : Fr [21, 22, 23] st st) (Fr.mU (by decide)))
      generalize ((mU st.1 21 6 (nI ((u 5) ||| (2 ^ k)))), st.2) = s1 at hN_2 hf_3 ⊢
      rw [show sp_breaks n u (nI k) = 1 from (if_pos hok).trans (if_neg (by rw [nI_clamp (show k < 2 ^ 31 by omega)]; exact h2)), show br_u n u (nI k) = updN u 5 (u 5 ||| 2 ^ k) from (if_pos hok).trans (by rw [nI_clamp (show k < 2 ^ 31 by omega)])] at hq
      exact w_iret rfl rfl rfl (hq _ ⟨hN_2, hf_3⟩)
    · replace h2 := pI_ne.mp h2
      refine w_blk 1 (pc' := 28) (ls' := [some (.ref 0), some (.int (nI k))]) (sk' := [.int 0]) (st' := st) (fun _ h => h) ?_
      have hok : ok1 n (nI k) := nI_in3 (by omega) hk
      rw [show sp_breaks n u (nI k) = 0 from (if_pos hok).trans (if_pos (by rw [nI_clamp (show k < 2 ^ 31 by omega)]; exact h2)), show br_u n u (nI k) = u from (if_pos hok).trans (by rw [nI_clamp (show k < 2 ^ 31 by omega), or_same h2, updN_id])] at hq
      exact w_iret rfl rfl rfl (hq _ ⟨hN, Fr.rf⟩)
  · replace h1 := pI_eq0.mp (Decidable.not_not.mp h1)
    refine w_blk 1 (pc' := 12) (ls' := [some (.ref 0), some (.int x)]) (sk' := [.int (-1)]) (st' := st) (fun _ h => h) ?_
    rw [show sp_breaks n u x = -1 from if_neg h1, show br_u n u x = u from if_neg h1] at hq
    exact w_iret rfl rfl rfl (hq _ ⟨hN, Fr.rf⟩)
set_option maxRecDepth 20000 in
/-- now -/
theorem x_now (d : Nat) (v : Nat → Int32) (u : Nat → Nat) (yd : Nat) (w : Int32) (st : mSt) (hN : N21 st v u yd) : mMC mT (d + 1) 95 [.ref 0, .int w] st (some (.int (sp_now v u yd w))) st := by
  refine mI_X9_now (d := d + 0) (Nat.le_of_ble_eq_true rfl) (fun Q hq => ?_)
  show mW (mMC mT (d + 0)) (0, fun _ => 0) (mAtL P_X9_now) (some .int) Q 0 [some (.ref 0), some (.int w)] [] st
  refine w_blk 1 (pc' := 1) (ls' := [some (.ref 0), some (.int w)]) (sk' := [.int w]) (st' := st) (fun _ h => h) ?_
  by_cases hw0 : w = 0
  · subst hw0
    refine w_tblIn (t := 40) rfl (by decide) (by decide) rfl rfl ?_
    refine w_blk 3 (pc' := 47) (ls' := [some (.ref 0), some (.int 0)]) (sk' := [.int (st.1 21 0)]) (st' := st) (fun _ h => h) ?_
    rw [hN.1]
    rw [show sp_now v u yd 0 = (v 0) from if_pos rfl] at hq
    exact w_iret rfl rfl rfl hq
  · by_cases hw1 : w = 1
    · subst hw1
      refine w_tblIn (t := 48) rfl (by decide) (by decide) rfl rfl ?_
      refine w_blk 3 (pc' := 55) (ls' := [some (.ref 0), some (.int 1)]) (sk' := [.int (st.1 21 1)]) (st' := st) (fun _ h => h) ?_
      rw [hN.2.1]
      rw [show sp_now v u yd 1 = (v 1) from (if_neg (by decide)).trans <| if_pos rfl] at hq
      exact w_iret rfl rfl rfl hq
    · by_cases hw2 : w = 2
      · subst hw2
        refine w_tblIn (t := 56) rfl (by decide) (by decide) rfl rfl ?_
        refine w_blk 3 (pc' := 63) (ls' := [some (.ref 0), some (.int 2)]) (sk' := [.int (st.1 21 2)]) (st' := st) (fun _ h => h) ?_
        rw [hN.2.2.1]
        rw [show sp_now v u yd 2 = (v 2) from (if_neg (by decide)).trans <| (if_neg (by decide)).trans <| if_pos rfl] at hq
        exact w_iret rfl rfl rfl hq
      · by_cases hw3 : w = 3
        · subst hw3
          refine w_tblIn (t := 64) rfl (by decide) (by decide) rfl rfl ?_
          refine w_blk 3 (pc' := 71) (ls' := [some (.ref 0), some (.int 3)]) (sk' := [.int (st.1 21 3)]) (st' := st) (fun _ h => h) ?_
          rw [hN.2.2.2.1]
          rw [show sp_now v u yd 3 = (nI yd) from (if_neg (by decide)).trans <| (if_neg (by decide)).trans <| (if_neg (by decide)).trans <| if_pos rfl] at hq
          exact w_iret rfl rfl rfl hq
        · by_cases hw4 : w = 4
          · subst hw4
            refine w_tblIn (t := 72) rfl (by decide) (by decide) rfl rfl ?_
            refine w_blk 3 (pc' := 79) (ls' := [some (.ref 0), some (.int 4)]) (sk' := [.int (st.1 21 4)]) (st' := st) (fun _ h => h) ?_
            rw [hN.2.2.2.2.1]
            rw [show sp_now v u yd 4 = (nI (u 3)) from (if_neg (by decide)).trans <| (if_neg (by decide)).trans <| (if_neg (by decide)).trans <| (if_neg (by decide)).trans <| if_pos rfl] at hq
            exact w_iret rfl rfl rfl hq
          · by_cases hw5 : w = 5
            · subst hw5
              refine w_tblIn (t := 80) rfl (by decide) (by decide) rfl rfl ?_
              refine w_blk 3 (pc' := 87) (ls' := [some (.ref 0), some (.int 5)]) (sk' := [.int (st.1 21 5)]) (st' := st) (fun _ h => h) ?_
              rw [hN.2.2.2.2.2.1]
              rw [show sp_now v u yd 5 = (nI (u 4)) from (if_neg (by decide)).trans <| (if_neg (by decide)).trans <| (if_neg (by decide)).trans <| (if_neg (by decide)).trans <| (if_neg (by decide)).trans <| if_pos rfl] at hq
              exact w_iret rfl rfl rfl hq
            · refine w_tblOut (t := 88) rfl (tbl_out 5 (by decide) (by intro k hk; rcases (show k = 0 ∨ k = 1 ∨ k = 2 ∨ k = 3 ∨ k = 4 ∨ k = 5 by omega) with rfl | rfl | rfl | rfl | rfl | rfl <;> assumption)) rfl ?_
              rw [show sp_now v u yd w = -1 from ((((((if_neg hw0).trans (if_neg hw1)).trans (if_neg hw2)).trans (if_neg hw3)).trans (if_neg hw4)).trans (if_neg hw5))] at hq
              refine w_blk 1 (pc' := 89) (ls' := [some (.ref 0), some (.int w)]) (sk' := [.int (-1)]) (st' := st) (fun _ h => h) ?_
              exact w_iret rfl rfl rfl hq
set_option maxRecDepth 20000 in
/-- count -/
theorem x_count_5 (d : Nat) (n : Nat → Nat) (c : Nat → Nat → Nat) (a b l : Nat) (w : Int32) (st : mSt) (hcw : st.1 0 1 = nI 5) (hX : X5 st n c) (ha : st.1 45 0 = nI a) (hb : st.1 49 0 = nI b) (hl : st.1 1 0 = nI l) : mMC mT (d + 1) 112 [.ref 0, .int w] st (some (.int (sp_count n a b l w))) st := by
  refine mI_X9_count (d := d + 0) (Nat.le_of_ble_eq_true rfl) (fun Q hq => ?_)
  show mW (mMC mT (d + 0)) (0, fun _ => 0) (mAtL P_X9_count) (some .int) Q 0 [some (.ref 0), some (.int w)] [] st
  have hcr : (st.1 0 1).toNatClampNeg = 5 := by rw [hcw]; rfl
  refine w_blk 1 (pc' := 1) (ls' := [some (.ref 0), some (.int w)]) (sk' := [.int w]) (st' := st) (fun _ h => h) ?_
  by_cases hw0 : w = 0
  · subst hw0
    refine w_tblIn (t := 40) rfl (by decide) (by decide) rfl rfl ?_
    refine w_blk 1 (pc' := 41) (ls' := [some (.ref 0), some (.int 0)]) (sk' := [.ref 0]) (st' := st) (fun _ h => h) ?_
    refine w_blk 1 (pc' := 44) (ls' := [some (.ref 0), some (.int 0)]) (sk' := [.ref (Int32.toNatClampNeg (st.1 0 1))]) (st' := st) (fun _ h => h) ?_
    rw [hcr]
    refine w_blk 1 (pc' := 47) (ls' := [some (.ref 0), some (.int 0)]) (sk' := [.int (st.1 5 0)]) (st' := st) (fun _ h => h) ?_
    rw [hX.1]
    rw [show sp_count n a b l 0 = (nI (n 0)) from if_pos rfl] at hq
    exact w_iret rfl rfl rfl hq
  · by_cases hw1 : w = 1
    · subst hw1
      refine w_tblIn (t := 48) rfl (by decide) (by decide) rfl rfl ?_
      refine w_blk 1 (pc' := 49) (ls' := [some (.ref 0), some (.int 1)]) (sk' := [.ref 0]) (st' := st) (fun _ h => h) ?_
      refine w_blk 1 (pc' := 52) (ls' := [some (.ref 0), some (.int 1)]) (sk' := [.ref (Int32.toNatClampNeg (st.1 0 1))]) (st' := st) (fun _ h => h) ?_
      rw [hcr]
      refine w_blk 1 (pc' := 55) (ls' := [some (.ref 0), some (.int 1)]) (sk' := [.int (st.1 5 1)]) (st' := st) (fun _ h => h) ?_
      rw [hX.2.1]
      rw [show sp_count n a b l 1 = (nI (n 1)) from (if_neg (by decide)).trans <| if_pos rfl] at hq
      exact w_iret rfl rfl rfl hq
    · by_cases hw2 : w = 2
      · subst hw2
        refine w_tblIn (t := 56) rfl (by decide) (by decide) rfl rfl ?_
        refine w_blk 1 (pc' := 57) (ls' := [some (.ref 0), some (.int 2)]) (sk' := [.ref 0]) (st' := st) (fun _ h => h) ?_
        refine w_blk 1 (pc' := 60) (ls' := [some (.ref 0), some (.int 2)]) (sk' := [.ref (Int32.toNatClampNeg (st.1 0 1))]) (st' := st) (fun _ h => h) ?_
        rw [hcr]
        refine w_blk 1 (pc' := 63) (ls' := [some (.ref 0), some (.int 2)]) (sk' := [.int (st.1 5 2)]) (st' := st) (fun _ h => h) ?_
        rw [hX.2.2.1]
        rw [show sp_count n a b l 2 = (nI (n 2)) from (if_neg (by decide)).trans <| (if_neg (by decide)).trans <| if_pos rfl] at hq
        exact w_iret rfl rfl rfl hq
      · by_cases hw3 : w = 3
        · subst hw3
          refine w_tblIn (t := 64) rfl (by decide) (by decide) rfl rfl ?_
          refine w_blk 3 (pc' := 71) (ls' := [some (.ref 0), some (.int 3)]) (sk' := [.int (st.1 45 0)]) (st' := st) (fun _ h => h) ?_
          rw [ha]
          rw [show sp_count n a b l 3 = (nI a) from (if_neg (by decide)).trans <| (if_neg (by decide)).trans <| (if_neg (by decide)).trans <| if_pos rfl] at hq
          exact w_iret rfl rfl rfl hq
        · by_cases hw4 : w = 4
          · subst hw4
            refine w_tblIn (t := 72) rfl (by decide) (by decide) rfl rfl ?_
            refine w_blk 3 (pc' := 79) (ls' := [some (.ref 0), some (.int 4)]) (sk' := [.int (st.1 49 0)]) (st' := st) (fun _ h => h) ?_
            rw [hb]
            rw [show sp_count n a b l 4 = (nI b) from (if_neg (by decide)).trans <| (if_neg (by decide)).trans <| (if_neg (by decide)).trans <| (if_neg (by decide)).trans <| if_pos rfl] at hq
            exact w_iret rfl rfl rfl hq
          · by_cases hw5 : w = 5
            · subst hw5
              refine w_tblIn (t := 80) rfl (by decide) (by decide) rfl rfl ?_
              refine w_blk 3 (pc' := 87) (ls' := [some (.ref 0), some (.int 5)]) (sk' := [.int (st.1 1 0)]) (st' := st) (fun _ h => h) ?_
              rw [hl]
              rw [show sp_count n a b l 5 = (nI l) from (if_neg (by decide)).trans <| (if_neg (by decide)).trans <| (if_neg (by decide)).trans <| (if_neg (by decide)).trans <| (if_neg (by decide)).trans <| if_pos rfl] at hq
              exact w_iret rfl rfl rfl hq
            · refine w_tblOut (t := 88) rfl (tbl_out 5 (by decide) (by intro k hk; rcases (show k = 0 ∨ k = 1 ∨ k = 2 ∨ k = 3 ∨ k = 4 ∨ k = 5 by omega) with rfl | rfl | rfl | rfl | rfl | rfl <;> assumption)) rfl ?_
              rw [show sp_count n a b l w = -1 from ((((((if_neg hw0).trans (if_neg hw1)).trans (if_neg hw2)).trans (if_neg hw3)).trans (if_neg hw4)).trans (if_neg hw5))] at hq
              refine w_blk 1 (pc' := 89) (ls' := [some (.ref 0), some (.int w)]) (sk' := [.int (-1)]) (st' := st) (fun _ h => h) ?_
              exact w_iret rfl rfl rfl hq
set_option maxRecDepth 20000 in
/-- count -/
theorem x_count_13 (d : Nat) (n : Nat → Nat) (c : Nat → Nat → Nat) (a b l : Nat) (w : Int32) (st : mSt) (hcw : st.1 0 1 = nI 13) (hX : X13 st n c) (ha : st.1 45 0 = nI a) (hb : st.1 49 0 = nI b) (hl : st.1 1 0 = nI l) : mMC mT (d + 1) 112 [.ref 0, .int w] st (some (.int (sp_count n a b l w))) st := by
  refine mI_X9_count (d := d + 0) (Nat.le_of_ble_eq_true rfl) (fun Q hq => ?_)
  show mW (mMC mT (d + 0)) (0, fun _ => 0) (mAtL P_X9_count) (some .int) Q 0 [some (.ref 0), some (.int w)] [] st
  have hcr : (st.1 0 1).toNatClampNeg = 13 := by rw [hcw]; rfl
  refine w_blk 1 (pc' := 1) (ls' := [some (.ref 0), some (.int w)]) (sk' := [.int w]) (st' := st) (fun _ h => h) ?_
  by_cases hw0 : w = 0
  · subst hw0
    refine w_tblIn (t := 40) rfl (by decide) (by decide) rfl rfl ?_
    refine w_blk 1 (pc' := 41) (ls' := [some (.ref 0), some (.int 0)]) (sk' := [.ref 0]) (st' := st) (fun _ h => h) ?_
    refine w_blk 1 (pc' := 44) (ls' := [some (.ref 0), some (.int 0)]) (sk' := [.ref (Int32.toNatClampNeg (st.1 0 1))]) (st' := st) (fun _ h => h) ?_
    rw [hcr]
    refine w_blk 1 (pc' := 47) (ls' := [some (.ref 0), some (.int 0)]) (sk' := [.int (st.1 13 0)]) (st' := st) (fun _ h => h) ?_
    rw [hX.1]
    rw [show sp_count n a b l 0 = (nI (n 0)) from if_pos rfl] at hq
    exact w_iret rfl rfl rfl hq
  · by_cases hw1 : w = 1
    · subst hw1
      refine w_tblIn (t := 48) rfl (by decide) (by decide) rfl rfl ?_
      refine w_blk 1 (pc' := 49) (ls' := [some (.ref 0), some (.int 1)]) (sk' := [.ref 0]) (st' := st) (fun _ h => h) ?_
      refine w_blk 1 (pc' := 52) (ls' := [some (.ref 0), some (.int 1)]) (sk' := [.ref (Int32.toNatClampNeg (st.1 0 1))]) (st' := st) (fun _ h => h) ?_
      rw [hcr]
      refine w_blk 1 (pc' := 55) (ls' := [some (.ref 0), some (.int 1)]) (sk' := [.int (st.1 13 1)]) (st' := st) (fun _ h => h) ?_
      rw [hX.2.1]
      rw [show sp_count n a b l 1 = (nI (n 1)) from (if_neg (by decide)).trans <| if_pos rfl] at hq
      exact w_iret rfl rfl rfl hq
    · by_cases hw2 : w = 2
      · subst hw2
        refine w_tblIn (t := 56) rfl (by decide) (by decide) rfl rfl ?_
        refine w_blk 1 (pc' := 57) (ls' := [some (.ref 0), some (.int 2)]) (sk' := [.ref 0]) (st' := st) (fun _ h => h) ?_
        refine w_blk 1 (pc' := 60) (ls' := [some (.ref 0), some (.int 2)]) (sk' := [.ref (Int32.toNatClampNeg (st.1 0 1))]) (st' := st) (fun _ h => h) ?_
        rw [hcr]
        refine w_blk 1 (pc' := 63) (ls' := [some (.ref 0), some (.int 2)]) (sk' := [.int (st.1 13 2)]) (st' := st) (fun _ h => h) ?_
        rw [hX.2.2.1]
        rw [show sp_count n a b l 2 = (nI (n 2)) from (if_neg (by decide)).trans <| (if_neg (by decide)).trans <| if_pos rfl] at hq
        exact w_iret rfl rfl rfl hq
      · by_cases hw3 : w = 3
        · subst hw3
          refine w_tblIn (t := 64) rfl (by decide) (by decide) rfl rfl ?_
          refine w_blk 3 (pc' := 71) (ls' := [some (.ref 0), some (.int 3)]) (sk' := [.int (st.1 45 0)]) (st' := st) (fun _ h => h) ?_
          rw [ha]
          rw [show sp_count n a b l 3 = (nI a) from (if_neg (by decide)).trans <| (if_neg (by decide)).trans <| (if_neg (by decide)).trans <| if_pos rfl] at hq
          exact w_iret rfl rfl rfl hq
        · by_cases hw4 : w = 4
          · subst hw4
            refine w_tblIn (t := 72) rfl (by decide) (by decide) rfl rfl ?_
            refine w_blk 3 (pc' := 79) (ls' := [some (.ref 0), some (.int 4)]) (sk' := [.int (st.1 49 0)]) (st' := st) (fun _ h => h) ?_
            rw [hb]
            rw [show sp_count n a b l 4 = (nI b) from (if_neg (by decide)).trans <| (if_neg (by decide)).trans <| (if_neg (by decide)).trans <| (if_neg (by decide)).trans <| if_pos rfl] at hq
            exact w_iret rfl rfl rfl hq
          · by_cases hw5 : w = 5
            · subst hw5
              refine w_tblIn (t := 80) rfl (by decide) (by decide) rfl rfl ?_
              refine w_blk 3 (pc' := 87) (ls' := [some (.ref 0), some (.int 5)]) (sk' := [.int (st.1 1 0)]) (st' := st) (fun _ h => h) ?_
              rw [hl]
              rw [show sp_count n a b l 5 = (nI l) from (if_neg (by decide)).trans <| (if_neg (by decide)).trans <| (if_neg (by decide)).trans <| (if_neg (by decide)).trans <| (if_neg (by decide)).trans <| if_pos rfl] at hq
              exact w_iret rfl rfl rfl hq
            · refine w_tblOut (t := 88) rfl (tbl_out 5 (by decide) (by intro k hk; rcases (show k = 0 ∨ k = 1 ∨ k = 2 ∨ k = 3 ∨ k = 4 ∨ k = 5 by omega) with rfl | rfl | rfl | rfl | rfl | rfl <;> assumption)) rfl ?_
              rw [show sp_count n a b l w = -1 from ((((((if_neg hw0).trans (if_neg hw1)).trans (if_neg hw2)).trans (if_neg hw3)).trans (if_neg hw4)).trans (if_neg hw5))] at hq
              refine w_blk 1 (pc' := 89) (ls' := [some (.ref 0), some (.int w)]) (sk' := [.int (-1)]) (st' := st) (fun _ h => h) ?_
              exact w_iret rfl rfl rfl hq
set_option maxRecDepth 20000 in
/-- reset() -/
theorem c_reset (d : Nat)  (st : mSt)  : ∃ (s : mSt), mMC mT (d + 2) 45 [.ref 21] st (none) s ∧ N21 s (fun _ => 0) (fun _ => 0) 0 ∧ Fr [21, 22, 23] st s := by
  suffices H : ∀ Q : Option Value → mSt → Prop, (∀ (s : mSt), (N21 s (fun _ => 0) (fun _ => 0) 0 ∧ Fr [21, 22, 23] st s) → Q (none) s) → mW (mMC mT (d + 1)) (0, fun _ => 0) (mAtL P_X5_reset) none Q 0 [some (.ref 21)] [] st by
    obtain ⟨_, _, ⟨s, rfl, rfl, hp⟩, hw⟩ := mW_ex (H (fun vv tt => ∃ (s : mSt),  vv = none ∧ s = tt ∧ N21 s (fun _ => 0) (fun _ => 0) 0 ∧ Fr [21, 22, 23] st s) (fun s hp => ⟨s, rfl, rfl, hp⟩))
    exact ⟨s, mI_X5_reset (d := d + 1) (Nat.le_of_ble_eq_true rfl) hw, hp⟩
  intro Q hq
  refine w_blk 24 (pc' := 40) (ls' := [some (.ref 21)]) (sk' := [.int 0, .ref 22]) (st' := ((mU (mU (mU (mU (mU (mU (mU st.1 21 0 0) 21 1 0) 21 2 0) 21 3 0) 21 4 0) 21 5 0) 21 6 0), st.2)) (fun _ h => h) ?_
  refine w_callS (As := [.ref 22, .int 0]) (rest := []) rfl rfl rfl (Nat.le_of_ble_eq_true rfl) (Nat.le_of_ble_eq_true rfl) (c_fill (d + 0) 22 6 0 ((mU (mU (mU (mU (mU (mU (mU st.1 21 0 0) 21 1 0) 21 2 0) 21 3 0) 21 4 0) 21 5 0) 21 6 0), st.2) (by decide) rfl) ?_
  refine w_blk 3 (pc' := 48) (ls' := [some (.ref 21)]) (sk' := [.int 0, .ref 23]) (st' := (filU (mU (mU (mU (mU (mU (mU (mU st.1 21 0 0) 21 1 0) 21 2 0) 21 3 0) 21 4 0) 21 5 0) 21 6 0) 22 6 0, st.2)) (fun _ h => h) ?_
  refine w_callS (As := [.ref 23, .int 0]) (rest := []) rfl rfl rfl (Nat.le_of_ble_eq_true rfl) (Nat.le_of_ble_eq_true rfl) (c_fill (d + 0) 23 8 0 (filU (mU (mU (mU (mU (mU (mU (mU st.1 21 0 0) 21 1 0) 21 2 0) 21 3 0) 21 4 0) 21 5 0) 21 6 0) 22 6 0, st.2) (by decide) rfl) ?_
  refine w_vret rfl rfl (hq _ ⟨⟨rfl, rfl, rfl, rfl, rfl, rfl, rfl, fun d hd => ?_, fun y hy => filU_at hy⟩, ?_⟩)
  · exact (show filU (filU (mU (mU (mU (mU (mU (mU (mU st.1 21 0 0) 21 1 0) 21 2 0) 21 3 0) 21 4 0) 21 5 0) 21 6 0) 22 6 0) 23 8 0 22 d = filU (mU (mU (mU (mU (mU (mU (mU st.1 21 0 0) 21 1 0) 21 2 0) 21 3 0) 21 4 0) 21 5 0) 21 6 0) 22 6 0 22 d from if_neg (fun h => absurd h.1 (by decide))).trans (filU_at hd)
  · exact Fr.trans (Fr.trans (Fr.trans (Fr.trans (Fr.trans (Fr.trans (Fr.trans (Fr.trans (Fr.trans (Fr.rf : Fr [21, 22, 23] st st) (Fr.mU (by decide))) (Fr.mU (by decide))) (Fr.mU (by decide))) (Fr.mU (by decide))) (Fr.mU (by decide))) (Fr.mU (by decide))) (Fr.mU (by decide))) (Fr.fil (st := ((mU (mU (mU (mU (mU (mU (mU st.1 21 0 0) 21 1 0) 21 2 0) 21 3 0) 21 4 0) 21 5 0) 21 6 0), st.2)) (by decide))) (Fr.fil (st := (filU (mU (mU (mU (mU (mU (mU (mU st.1 21 0 0) 21 1 0) 21 2 0) 21 3 0) 21 4 0) 21 5 0) 21 6 0) 22 6 0, st.2)) (by decide))
set_option maxRecDepth 20000 in
/-- anew -/
theorem x_anew (d : Nat) (v : Nat → Int32) (u : Nat → Nat) (yd : Nat) (st : mSt) (hN : N21 st v u yd) : ∃ (s : mSt), mMC mT (d + 3) 96 [.ref 0] st (some (.int (v 0))) s ∧ N21 s (fun _ => 0) (fun _ => 0) 0 ∧ Fr [21, 22, 23] st s := by
  suffices H : ∀ Q : Option Value → mSt → Prop, (∀ (s : mSt), (N21 s (fun _ => 0) (fun _ => 0) 0 ∧ Fr [21, 22, 23] st s) → Q (some (.int (v 0))) s) → mW (mMC mT (d + 2)) (0, fun _ => 0) (mAtL P_X9_anew) (some .int) Q 0 [some (.ref 0), none] [] st by
    obtain ⟨_, _, ⟨s, rfl, rfl, hp⟩, hw⟩ := mW_ex (H (fun vv tt => ∃ (s : mSt),  vv = some (.int (v 0)) ∧ s = tt ∧ N21 s (fun _ => 0) (fun _ => 0) 0 ∧ Fr [21, 22, 23] st s) (fun s hp => ⟨s, rfl, rfl, hp⟩))
    exact ⟨s, mI_X9_anew (d := d + 2) (Nat.le_of_ble_eq_true rfl) hw, hp⟩
  intro Q hq
  refine w_blk 3 (pc' := 7) (ls' := [some (.ref 0), none]) (sk' := [.int (st.1 21 0)]) (st' := st) (fun _ h => h) ?_
  rw [hN.1]
  refine w_blk 3 (pc' := 12) (ls' := [some (.ref 0), some (.int (v 0))]) (sk' := [.ref 21]) (st' := st) (fun _ h => h) ?_
  obtain ⟨s1, hc_2, hN_3, hf_4⟩ := c_reset (d + 0) st
  refine w_callV (As := [.ref 21]) (rest := []) rfl rfl rfl (Nat.le_of_ble_eq_true rfl) (Nat.le_of_ble_eq_true rfl) (by first | exact Or.inl ⟨rfl, rfl⟩ | exact Or.inr ⟨rfl, rfl⟩) hc_2 ?_
  have hf_5 := Fr.trans (Fr.rf : Fr [21, 22, 23] st st) (Fr.mono hf_4 (by decide))
  refine w_blk 1 (pc' := 16) (ls' := [some (.ref 0), some (.int (v 0))]) (sk' := [.int (v 0)]) (st' := s1) (fun _ h => h) ?_
  exact w_iret rfl rfl rfl (hq _ ⟨hN_3, hf_5⟩)
theorem Fr.cpy {S : List Nat} {st : mSt} {a p k : Nat} (h : p ∈ S) : Fr S st (cpyU st.1 a p k, st.2) := ⟨fun q hq => cpyU_ne (fun e => hq (e ▸ h)), fun _ _ => rfl⟩
set_option maxRecDepth 20000 in
/-- copyFrom -/
theorem c_copy_21_25 (d : Nat) (v : Nat → Int32) (u : Nat → Nat) (yd : Nat) (st : mSt) (hN : N21 st v u yd) : ∃ (s : mSt), mMC mT (d + 2) 46 [.ref 25, .ref 21] st (none) s ∧ N25 s v u yd ∧ Fr [25, 26, 27] st s := by
  suffices H : ∀ Q : Option Value → mSt → Prop, (∀ (s : mSt), (N25 s v u yd ∧ Fr [25, 26, 27] st s) → Q (none) s) → mW (mMC mT (d + 1)) (0, fun _ => 0) (mAtL P_X5_copyFrom) none Q 0 [some (.ref 25), some (.ref 21)] [] st by
    obtain ⟨_, _, ⟨s, rfl, rfl, hp⟩, hw⟩ := mW_ex (H (fun vv tt => ∃ (s : mSt),  vv = none ∧ s = tt ∧ N25 s v u yd ∧ Fr [25, 26, 27] st s) (fun s hp => ⟨s, rfl, rfl, hp⟩))
    exact ⟨s, mI_X5_copyFrom (d := d + 1) (Nat.le_of_ble_eq_true rfl) hw, hp⟩
  intro Q hq
  obtain ⟨e0, e1, e2, e3, e4, e5, e6, e7, e8⟩ := hN
  refine w_blk 32 (pc' := 64) (ls' := [some (.ref 25), some (.ref 21)]) (sk' := [.ref 26, .ref 22]) (st' := ((mU (mU (mU (mU (mU (mU (mU st.1 25 0 (st.1 21 0)) 25 1 (st.1 21 1)) 25 2 (st.1 21 2)) 25 3 (st.1 21 3)) 25 4 (st.1 21 4)) 25 5 (st.1 21 5)) 25 6 (st.1 21 6)), st.2)) (fun _ h => h) ?_
  refine w_callS (As := [.ref 22, .ref 26]) (rest := []) rfl rfl rfl (Nat.le_of_ble_eq_true rfl) (Nat.le_of_ble_eq_true rfl) (c_copy (d + 0) 22 26 6 ((mU (mU (mU (mU (mU (mU (mU st.1 25 0 (st.1 21 0)) 25 1 (st.1 21 1)) 25 2 (st.1 21 2)) 25 3 (st.1 21 3)) 25 4 (st.1 21 4)) 25 5 (st.1 21 5)) 25 6 (st.1 21 6)), st.2) (by decide) rfl rfl (by decide)) ?_
  refine w_blk 4 (pc' := 75) (ls' := [some (.ref 25), some (.ref 21)]) (sk' := [.ref 27, .ref 23]) (st' := (cpyU (mU (mU (mU (mU (mU (mU (mU st.1 25 0 (st.1 21 0)) 25 1 (st.1 21 1)) 25 2 (st.1 21 2)) 25 3 (st.1 21 3)) 25 4 (st.1 21 4)) 25 5 (st.1 21 5)) 25 6 (st.1 21 6)) 22 26 6, st.2)) (fun _ h => h) ?_
  refine w_callS (As := [.ref 23, .ref 27]) (rest := []) rfl rfl rfl (Nat.le_of_ble_eq_true rfl) (Nat.le_of_ble_eq_true rfl) (c_copy (d + 0) 23 27 8 (cpyU (mU (mU (mU (mU (mU (mU (mU st.1 25 0 (st.1 21 0)) 25 1 (st.1 21 1)) 25 2 (st.1 21 2)) 25 3 (st.1 21 3)) 25 4 (st.1 21 4)) 25 5 (st.1 21 5)) 25 6 (st.1 21 6)) 22 26 6, st.2) (by decide) rfl rfl (by decide)) ?_
  refine w_vret rfl rfl (hq _ ⟨⟨e0, e1, e2, e3, e4, e5, e6, fun d hd => ?_, fun y hy => ?_⟩, ?_⟩)
  · exact ((show cpyU (cpyU (mU (mU (mU (mU (mU (mU (mU st.1 25 0 (st.1 21 0)) 25 1 (st.1 21 1)) 25 2 (st.1 21 2)) 25 3 (st.1 21 3)) 25 4 (st.1 21 4)) 25 5 (st.1 21 5)) 25 6 (st.1 21 6)) 22 26 6) 23 27 8 26 d = cpyU (mU (mU (mU (mU (mU (mU (mU st.1 25 0 (st.1 21 0)) 25 1 (st.1 21 1)) 25 2 (st.1 21 2)) 25 3 (st.1 21 3)) 25 4 (st.1 21 4)) 25 5 (st.1 21 5)) 25 6 (st.1 21 6)) 22 26 6 26 d from if_neg (fun h => absurd h.1 (by decide))).trans (cpyU_at hd)).trans (e7 d hd)
  · exact ((cpyU_at hy).trans (show cpyU (mU (mU (mU (mU (mU (mU (mU st.1 25 0 (st.1 21 0)) 25 1 (st.1 21 1)) 25 2 (st.1 21 2)) 25 3 (st.1 21 3)) 25 4 (st.1 21 4)) 25 5 (st.1 21 5)) 25 6 (st.1 21 6)) 22 26 6 23 y = st.1 23 y from if_neg (fun h => absurd h.1 (by decide)))).trans (e8 y hy)
  · exact Fr.trans (Fr.trans (Fr.trans (Fr.trans (Fr.trans (Fr.trans (Fr.trans (Fr.trans (Fr.trans (Fr.rf : Fr [25, 26, 27] st st) (Fr.mU (by decide))) (Fr.mU (by decide))) (Fr.mU (by decide))) (Fr.mU (by decide))) (Fr.mU (by decide))) (Fr.mU (by decide))) (Fr.mU (by decide))) (Fr.cpy (st := ((mU (mU (mU (mU (mU (mU (mU st.1 25 0 (st.1 21 0)) 25 1 (st.1 21 1)) 25 2 (st.1 21 2)) 25 3 (st.1 21 3)) 25 4 (st.1 21 4)) 25 5 (st.1 21 5)) 25 6 (st.1 21 6)), st.2)) (by decide))) (Fr.cpy (st := (cpyU (mU (mU (mU (mU (mU (mU (mU st.1 25 0 (st.1 21 0)) 25 1 (st.1 21 1)) 25 2 (st.1 21 2)) 25 3 (st.1 21 3)) 25 4 (st.1 21 4)) 25 5 (st.1 21 5)) 25 6 (st.1 21 6)) 22 26 6, st.2)) (by decide))
set_option maxRecDepth 20000 in
/-- copyFrom -/
theorem c_copy_21_28 (d : Nat) (v : Nat → Int32) (u : Nat → Nat) (yd : Nat) (st : mSt) (hN : N21 st v u yd) : ∃ (s : mSt), mMC mT (d + 2) 46 [.ref 28, .ref 21] st (none) s ∧ N28 s v u yd ∧ Fr [28, 29, 30] st s := by
  suffices H : ∀ Q : Option Value → mSt → Prop, (∀ (s : mSt), (N28 s v u yd ∧ Fr [28, 29, 30] st s) → Q (none) s) → mW (mMC mT (d + 1)) (0, fun _ => 0) (mAtL P_X5_copyFrom) none Q 0 [some (.ref 28), some (.ref 21)] [] st by
    obtain ⟨_, _, ⟨s, rfl, rfl, hp⟩, hw⟩ := mW_ex (H (fun vv tt => ∃ (s : mSt),  vv = none ∧ s = tt ∧ N28 s v u yd ∧ Fr [28, 29, 30] st s) (fun s hp => ⟨s, rfl, rfl, hp⟩))
    exact ⟨s, mI_X5_copyFrom (d := d + 1) (Nat.le_of_ble_eq_true rfl) hw, hp⟩
  intro Q hq
  obtain ⟨e0, e1, e2, e3, e4, e5, e6, e7, e8⟩ := hN
  refine w_blk 32 (pc' := 64) (ls' := [some (.ref 28), some (.ref 21)]) (sk' := [.ref 29, .ref 22]) (st' := ((mU (mU (mU (mU (mU (mU (mU st.1 28 0 (st.1 21 0)) 28 1 (st.1 21 1)) 28 2 (st.1 21 2)) 28 3 (st.1 21 3)) 28 4 (st.1 21 4)) 28 5 (st.1 21 5)) 28 6 (st.1 21 6)), st.2)) (fun _ h => h) ?_
  refine w_callS (As := [.ref 22, .ref 29]) (rest := []) rfl rfl rfl (Nat.le_of_ble_eq_true rfl) (Nat.le_of_ble_eq_true rfl) (c_copy (d + 0) 22 29 6 ((mU (mU (mU (mU (mU (mU (mU st.1 28 0 (st.1 21 0)) 28 1 (st.1 21 1)) 28 2 (st.1 21 2)) 28 3 (st.1 21 3)) 28 4 (st.1 21 4)) 28 5 (st.1 21 5)) 28 6 (st.1 21 6)), st.2) (by decide) rfl rfl (by decide)) ?_
  refine w_blk 4 (pc' := 75) (ls' := [some (.ref 28), some (.ref 21)]) (sk' := [.ref 30, .ref 23]) (st' := (cpyU (mU (mU (mU (mU (mU (mU (mU st.1 28 0 (st.1 21 0)) 28 1 (st.1 21 1)) 28 2 (st.1 21 2)) 28 3 (st.1 21 3)) 28 4 (st.1 21 4)) 28 5 (st.1 21 5)) 28 6 (st.1 21 6)) 22 29 6, st.2)) (fun _ h => h) ?_
  refine w_callS (As := [.ref 23, .ref 30]) (rest := []) rfl rfl rfl (Nat.le_of_ble_eq_true rfl) (Nat.le_of_ble_eq_true rfl) (c_copy (d + 0) 23 30 8 (cpyU (mU (mU (mU (mU (mU (mU (mU st.1 28 0 (st.1 21 0)) 28 1 (st.1 21 1)) 28 2 (st.1 21 2)) 28 3 (st.1 21 3)) 28 4 (st.1 21 4)) 28 5 (st.1 21 5)) 28 6 (st.1 21 6)) 22 29 6, st.2) (by decide) rfl rfl (by decide)) ?_
  refine w_vret rfl rfl (hq _ ⟨⟨e0, e1, e2, e3, e4, e5, e6, fun d hd => ?_, fun y hy => ?_⟩, ?_⟩)
  · exact ((show cpyU (cpyU (mU (mU (mU (mU (mU (mU (mU st.1 28 0 (st.1 21 0)) 28 1 (st.1 21 1)) 28 2 (st.1 21 2)) 28 3 (st.1 21 3)) 28 4 (st.1 21 4)) 28 5 (st.1 21 5)) 28 6 (st.1 21 6)) 22 29 6) 23 30 8 29 d = cpyU (mU (mU (mU (mU (mU (mU (mU st.1 28 0 (st.1 21 0)) 28 1 (st.1 21 1)) 28 2 (st.1 21 2)) 28 3 (st.1 21 3)) 28 4 (st.1 21 4)) 28 5 (st.1 21 5)) 28 6 (st.1 21 6)) 22 29 6 29 d from if_neg (fun h => absurd h.1 (by decide))).trans (cpyU_at hd)).trans (e7 d hd)
  · exact ((cpyU_at hy).trans (show cpyU (mU (mU (mU (mU (mU (mU (mU st.1 28 0 (st.1 21 0)) 28 1 (st.1 21 1)) 28 2 (st.1 21 2)) 28 3 (st.1 21 3)) 28 4 (st.1 21 4)) 28 5 (st.1 21 5)) 28 6 (st.1 21 6)) 22 29 6 23 y = st.1 23 y from if_neg (fun h => absurd h.1 (by decide)))).trans (e8 y hy)
  · exact Fr.trans (Fr.trans (Fr.trans (Fr.trans (Fr.trans (Fr.trans (Fr.trans (Fr.trans (Fr.trans (Fr.rf : Fr [28, 29, 30] st st) (Fr.mU (by decide))) (Fr.mU (by decide))) (Fr.mU (by decide))) (Fr.mU (by decide))) (Fr.mU (by decide))) (Fr.mU (by decide))) (Fr.mU (by decide))) (Fr.cpy (st := ((mU (mU (mU (mU (mU (mU (mU st.1 28 0 (st.1 21 0)) 28 1 (st.1 21 1)) 28 2 (st.1 21 2)) 28 3 (st.1 21 3)) 28 4 (st.1 21 4)) 28 5 (st.1 21 5)) 28 6 (st.1 21 6)), st.2)) (by decide))) (Fr.cpy (st := (cpyU (mU (mU (mU (mU (mU (mU (mU st.1 28 0 (st.1 21 0)) 28 1 (st.1 21 1)) 28 2 (st.1 21 2)) 28 3 (st.1 21 3)) 28 4 (st.1 21 4)) 28 5 (st.1 21 5)) 28 6 (st.1 21 6)) 22 29 6, st.2)) (by decide))
set_option maxRecDepth 20000 in
/-- copyFrom -/
theorem c_copy_25_21 (d : Nat) (v : Nat → Int32) (u : Nat → Nat) (yd : Nat) (st : mSt) (hN : N25 st v u yd) : ∃ (s : mSt), mMC mT (d + 2) 46 [.ref 21, .ref 25] st (none) s ∧ N21 s v u yd ∧ Fr [21, 22, 23] st s := by
  suffices H : ∀ Q : Option Value → mSt → Prop, (∀ (s : mSt), (N21 s v u yd ∧ Fr [21, 22, 23] st s) → Q (none) s) → mW (mMC mT (d + 1)) (0, fun _ => 0) (mAtL P_X5_copyFrom) none Q 0 [some (.ref 21), some (.ref 25)] [] st by
    obtain ⟨_, _, ⟨s, rfl, rfl, hp⟩, hw⟩ := mW_ex (H (fun vv tt => ∃ (s : mSt),  vv = none ∧ s = tt ∧ N21 s v u yd ∧ Fr [21, 22, 23] st s) (fun s hp => ⟨s, rfl, rfl, hp⟩))
    exact ⟨s, mI_X5_copyFrom (d := d + 1) (Nat.le_of_ble_eq_true rfl) hw, hp⟩
  intro Q hq
  obtain ⟨e0, e1, e2, e3, e4, e5, e6, e7, e8⟩ := hN
  refine w_blk 32 (pc' := 64) (ls' := [some (.ref 21), some (.ref 25)]) (sk' := [.ref 22, .ref 26]) (st' := ((mU (mU (mU (mU (mU (mU (mU st.1 21 0 (st.1 25 0)) 21 1 (st.1 25 1)) 21 2 (st.1 25 2)) 21 3 (st.1 25 3)) 21 4 (st.1 25 4)) 21 5 (st.1 25 5)) 21 6 (st.1 25 6)), st.2)) (fun _ h => h) ?_
  refine w_callS (As := [.ref 26, .ref 22]) (rest := []) rfl rfl rfl (Nat.le_of_ble_eq_true rfl) (Nat.le_of_ble_eq_true rfl) (c_copy (d + 0) 26 22 6 ((mU (mU (mU (mU (mU (mU (mU st.1 21 0 (st.1 25 0)) 21 1 (st.1 25 1)) 21 2 (st.1 25 2)) 21 3 (st.1 25 3)) 21 4 (st.1 25 4)) 21 5 (st.1 25 5)) 21 6 (st.1 25 6)), st.2) (by decide) rfl rfl (by decide)) ?_
  refine w_blk 4 (pc' := 75) (ls' := [some (.ref 21), some (.ref 25)]) (sk' := [.ref 23, .ref 27]) (st' := (cpyU (mU (mU (mU (mU (mU (mU (mU st.1 21 0 (st.1 25 0)) 21 1 (st.1 25 1)) 21 2 (st.1 25 2)) 21 3 (st.1 25 3)) 21 4 (st.1 25 4)) 21 5 (st.1 25 5)) 21 6 (st.1 25 6)) 26 22 6, st.2)) (fun _ h => h) ?_
  refine w_callS (As := [.ref 27, .ref 23]) (rest := []) rfl rfl rfl (Nat.le_of_ble_eq_true rfl) (Nat.le_of_ble_eq_true rfl) (c_copy (d + 0) 27 23 8 (cpyU (mU (mU (mU (mU (mU (mU (mU st.1 21 0 (st.1 25 0)) 21 1 (st.1 25 1)) 21 2 (st.1 25 2)) 21 3 (st.1 25 3)) 21 4 (st.1 25 4)) 21 5 (st.1 25 5)) 21 6 (st.1 25 6)) 26 22 6, st.2) (by decide) rfl rfl (by decide)) ?_
  refine w_vret rfl rfl (hq _ ⟨⟨e0, e1, e2, e3, e4, e5, e6, fun d hd => ?_, fun y hy => ?_⟩, ?_⟩)
  · exact ((show cpyU (cpyU (mU (mU (mU (mU (mU (mU (mU st.1 21 0 (st.1 25 0)) 21 1 (st.1 25 1)) 21 2 (st.1 25 2)) 21 3 (st.1 25 3)) 21 4 (st.1 25 4)) 21 5 (st.1 25 5)) 21 6 (st.1 25 6)) 26 22 6) 27 23 8 22 d = cpyU (mU (mU (mU (mU (mU (mU (mU st.1 21 0 (st.1 25 0)) 21 1 (st.1 25 1)) 21 2 (st.1 25 2)) 21 3 (st.1 25 3)) 21 4 (st.1 25 4)) 21 5 (st.1 25 5)) 21 6 (st.1 25 6)) 26 22 6 22 d from if_neg (fun h => absurd h.1 (by decide))).trans (cpyU_at hd)).trans (e7 d hd)
  · exact ((cpyU_at hy).trans (show cpyU (mU (mU (mU (mU (mU (mU (mU st.1 21 0 (st.1 25 0)) 21 1 (st.1 25 1)) 21 2 (st.1 25 2)) 21 3 (st.1 25 3)) 21 4 (st.1 25 4)) 21 5 (st.1 25 5)) 21 6 (st.1 25 6)) 26 22 6 27 y = st.1 27 y from if_neg (fun h => absurd h.1 (by decide)))).trans (e8 y hy)
  · exact Fr.trans (Fr.trans (Fr.trans (Fr.trans (Fr.trans (Fr.trans (Fr.trans (Fr.trans (Fr.trans (Fr.rf : Fr [21, 22, 23] st st) (Fr.mU (by decide))) (Fr.mU (by decide))) (Fr.mU (by decide))) (Fr.mU (by decide))) (Fr.mU (by decide))) (Fr.mU (by decide))) (Fr.mU (by decide))) (Fr.cpy (st := ((mU (mU (mU (mU (mU (mU (mU st.1 21 0 (st.1 25 0)) 21 1 (st.1 25 1)) 21 2 (st.1 25 2)) 21 3 (st.1 25 3)) 21 4 (st.1 25 4)) 21 5 (st.1 25 5)) 21 6 (st.1 25 6)), st.2)) (by decide))) (Fr.cpy (st := (cpyU (mU (mU (mU (mU (mU (mU (mU st.1 21 0 (st.1 25 0)) 21 1 (st.1 25 1)) 21 2 (st.1 25 2)) 21 3 (st.1 25 3)) 21 4 (st.1 25 4)) 21 5 (st.1 25 5)) 21 6 (st.1 25 6)) 26 22 6, st.2)) (by decide))
set_option maxRecDepth 20000 in
/-- copyFrom -/
theorem c_copy_28_21 (d : Nat) (v : Nat → Int32) (u : Nat → Nat) (yd : Nat) (st : mSt) (hN : N28 st v u yd) : ∃ (s : mSt), mMC mT (d + 2) 46 [.ref 21, .ref 28] st (none) s ∧ N21 s v u yd ∧ Fr [21, 22, 23] st s := by
  suffices H : ∀ Q : Option Value → mSt → Prop, (∀ (s : mSt), (N21 s v u yd ∧ Fr [21, 22, 23] st s) → Q (none) s) → mW (mMC mT (d + 1)) (0, fun _ => 0) (mAtL P_X5_copyFrom) none Q 0 [some (.ref 21), some (.ref 28)] [] st by
    obtain ⟨_, _, ⟨s, rfl, rfl, hp⟩, hw⟩ := mW_ex (H (fun vv tt => ∃ (s : mSt),  vv = none ∧ s = tt ∧ N21 s v u yd ∧ Fr [21, 22, 23] st s) (fun s hp => ⟨s, rfl, rfl, hp⟩))
    exact ⟨s, mI_X5_copyFrom (d := d + 1) (Nat.le_of_ble_eq_true rfl) hw, hp⟩
  intro Q hq
  obtain ⟨e0, e1, e2, e3, e4, e5, e6, e7, e8⟩ := hN
  refine w_blk 32 (pc' := 64) (ls' := [some (.ref 21), some (.ref 28)]) (sk' := [.ref 22, .ref 29]) (st' := ((mU (mU (mU (mU (mU (mU (mU st.1 21 0 (st.1 28 0)) 21 1 (st.1 28 1)) 21 2 (st.1 28 2)) 21 3 (st.1 28 3)) 21 4 (st.1 28 4)) 21 5 (st.1 28 5)) 21 6 (st.1 28 6)), st.2)) (fun _ h => h) ?_
  refine w_callS (As := [.ref 29, .ref 22]) (rest := []) rfl rfl rfl (Nat.le_of_ble_eq_true rfl) (Nat.le_of_ble_eq_true rfl) (c_copy (d + 0) 29 22 6 ((mU (mU (mU (mU (mU (mU (mU st.1 21 0 (st.1 28 0)) 21 1 (st.1 28 1)) 21 2 (st.1 28 2)) 21 3 (st.1 28 3)) 21 4 (st.1 28 4)) 21 5 (st.1 28 5)) 21 6 (st.1 28 6)), st.2) (by decide) rfl rfl (by decide)) ?_
  refine w_blk 4 (pc' := 75) (ls' := [some (.ref 21), some (.ref 28)]) (sk' := [.ref 23, .ref 30]) (st' := (cpyU (mU (mU (mU (mU (mU (mU (mU st.1 21 0 (st.1 28 0)) 21 1 (st.1 28 1)) 21 2 (st.1 28 2)) 21 3 (st.1 28 3)) 21 4 (st.1 28 4)) 21 5 (st.1 28 5)) 21 6 (st.1 28 6)) 29 22 6, st.2)) (fun _ h => h) ?_
  refine w_callS (As := [.ref 30, .ref 23]) (rest := []) rfl rfl rfl (Nat.le_of_ble_eq_true rfl) (Nat.le_of_ble_eq_true rfl) (c_copy (d + 0) 30 23 8 (cpyU (mU (mU (mU (mU (mU (mU (mU st.1 21 0 (st.1 28 0)) 21 1 (st.1 28 1)) 21 2 (st.1 28 2)) 21 3 (st.1 28 3)) 21 4 (st.1 28 4)) 21 5 (st.1 28 5)) 21 6 (st.1 28 6)) 29 22 6, st.2) (by decide) rfl rfl (by decide)) ?_
  refine w_vret rfl rfl (hq _ ⟨⟨e0, e1, e2, e3, e4, e5, e6, fun d hd => ?_, fun y hy => ?_⟩, ?_⟩)
  · exact ((show cpyU (cpyU (mU (mU (mU (mU (mU (mU (mU st.1 21 0 (st.1 28 0)) 21 1 (st.1 28 1)) 21 2 (st.1 28 2)) 21 3 (st.1 28 3)) 21 4 (st.1 28 4)) 21 5 (st.1 28 5)) 21 6 (st.1 28 6)) 29 22 6) 30 23 8 22 d = cpyU (mU (mU (mU (mU (mU (mU (mU st.1 21 0 (st.1 28 0)) 21 1 (st.1 28 1)) 21 2 (st.1 28 2)) 21 3 (st.1 28 3)) 21 4 (st.1 28 4)) 21 5 (st.1 28 5)) 21 6 (st.1 28 6)) 29 22 6 22 d from if_neg (fun h => absurd h.1 (by decide))).trans (cpyU_at hd)).trans (e7 d hd)
  · exact ((cpyU_at hy).trans (show cpyU (mU (mU (mU (mU (mU (mU (mU st.1 21 0 (st.1 28 0)) 21 1 (st.1 28 1)) 21 2 (st.1 28 2)) 21 3 (st.1 28 3)) 21 4 (st.1 28 4)) 21 5 (st.1 28 5)) 21 6 (st.1 28 6)) 29 22 6 30 y = st.1 30 y from if_neg (fun h => absurd h.1 (by decide)))).trans (e8 y hy)
  · exact Fr.trans (Fr.trans (Fr.trans (Fr.trans (Fr.trans (Fr.trans (Fr.trans (Fr.trans (Fr.trans (Fr.rf : Fr [21, 22, 23] st st) (Fr.mU (by decide))) (Fr.mU (by decide))) (Fr.mU (by decide))) (Fr.mU (by decide))) (Fr.mU (by decide))) (Fr.mU (by decide))) (Fr.mU (by decide))) (Fr.cpy (st := ((mU (mU (mU (mU (mU (mU (mU st.1 21 0 (st.1 28 0)) 21 1 (st.1 28 1)) 21 2 (st.1 28 2)) 21 3 (st.1 28 3)) 21 4 (st.1 28 4)) 21 5 (st.1 28 5)) 21 6 (st.1 28 6)), st.2)) (by decide))) (Fr.cpy (st := (cpyU (mU (mU (mU (mU (mU (mU (mU st.1 21 0 (st.1 28 0)) 21 1 (st.1 28 1)) 21 2 (st.1 28 2)) 21 3 (st.1 28 3)) 21 4 (st.1 28 4)) 21 5 (st.1 28 5)) 21 6 (st.1 28 6)) 29 22 6, st.2)) (by decide))
