/-! who and what there is: the reads, for both places of it (5, 13) -/
set_option maxRecDepth 20000 in
/-- hasDigger(x) -/
theorem c_hasDigger_5 (d : Nat) (x : Int32) (st : mSt) : mMC mT (d + 1) 20 [.ref 5, .int x] st (some (.int (pI (0 ≤ x ∧ x < st.1 5 0)))) st := by
  refine mI_X1_hasDigger (d := d + 0) (Nat.le_of_ble_eq_true rfl) (fun Q hq => ?_)
  show mW (mMC mT (d + 0)) (0, fun _ => 0) (mAtL P_X1_hasDigger) (some .boolean) Q 0 [some (.ref 5), some (.int x)] [] st
  refine w_blk 1 (pc' := 1) (ls' := [some (.ref 5), some (.int x)]) (sk' := [.int x]) (st' := st) (fun _ h => h) ?_
  refine w_if_lt rfl (fun h1 => ?_) (fun h1 => ?_)
  · refine w_blk 1 (pc' := 17) (ls' := [some (.ref 5), some (.int x)]) (sk' := [.int 0]) (st' := st) (fun _ h => h) ?_
    rw [pI_f (by first | grind | (simp only [Int32.le_iff_toInt_le, Int32.lt_iff_toInt_lt] at *; omega))] at hq
    exact w_iret rfl rfl rfl hq
  · refine w_blk 3 (pc' := 9) (ls' := [some (.ref 5), some (.int x)]) (sk' := [.int (st.1 5 0), .int x]) (st' := st) (fun _ h => h) ?_
    refine w_cmp_ge rfl (fun h2 => ?_) (fun h2 => ?_)
    · refine w_blk 1 (pc' := 17) (ls' := [some (.ref 5), some (.int x)]) (sk' := [.int 0]) (st' := st) (fun _ h => h) ?_
      rw [pI_f (by first | grind | (simp only [Int32.le_iff_toInt_le, Int32.lt_iff_toInt_lt] at *; omega))] at hq
      exact w_iret rfl rfl rfl hq
    · refine w_blk 2 (pc' := 17) (ls' := [some (.ref 5), some (.int x)]) (sk' := [.int 1]) (st' := st) (fun _ h => h) ?_
      rw [pI_t (by first | grind | (simp only [Int32.le_iff_toInt_le, Int32.lt_iff_toInt_lt] at *; omega))] at hq
      exact w_iret rfl rfl rfl hq
set_option maxRecDepth 20000 in
/-- hasDigger(x) -/
theorem c_hasDigger_13 (d : Nat) (x : Int32) (st : mSt) : mMC mT (d + 1) 20 [.ref 13, .int x] st (some (.int (pI (0 ≤ x ∧ x < st.1 13 0)))) st := by
  refine mI_X1_hasDigger (d := d + 0) (Nat.le_of_ble_eq_true rfl) (fun Q hq => ?_)
  show mW (mMC mT (d + 0)) (0, fun _ => 0) (mAtL P_X1_hasDigger) (some .boolean) Q 0 [some (.ref 13), some (.int x)] [] st
  refine w_blk 1 (pc' := 1) (ls' := [some (.ref 13), some (.int x)]) (sk' := [.int x]) (st' := st) (fun _ h => h) ?_
  refine w_if_lt rfl (fun h1 => ?_) (fun h1 => ?_)
  · refine w_blk 1 (pc' := 17) (ls' := [some (.ref 13), some (.int x)]) (sk' := [.int 0]) (st' := st) (fun _ h => h) ?_
    rw [pI_f (by first | grind | (simp only [Int32.le_iff_toInt_le, Int32.lt_iff_toInt_lt] at *; omega))] at hq
    exact w_iret rfl rfl rfl hq
  · refine w_blk 3 (pc' := 9) (ls' := [some (.ref 13), some (.int x)]) (sk' := [.int (st.1 13 0), .int x]) (st' := st) (fun _ h => h) ?_
    refine w_cmp_ge rfl (fun h2 => ?_) (fun h2 => ?_)
    · refine w_blk 1 (pc' := 17) (ls' := [some (.ref 13), some (.int x)]) (sk' := [.int 0]) (st' := st) (fun _ h => h) ?_
      rw [pI_f (by first | grind | (simp only [Int32.le_iff_toInt_le, Int32.lt_iff_toInt_lt] at *; omega))] at hq
      exact w_iret rfl rfl rfl hq
    · refine w_blk 2 (pc' := 17) (ls' := [some (.ref 13), some (.int x)]) (sk' := [.int 1]) (st' := st) (fun _ h => h) ?_
      rw [pI_t (by first | grind | (simp only [Int32.le_iff_toInt_le, Int32.lt_iff_toInt_lt] at *; omega))] at hq
      exact w_iret rfl rfl rfl hq
set_option maxRecDepth 20000 in
/-- hasSpade(x) -/
theorem c_hasSpade_5 (d : Nat) (x : Int32) (st : mSt) : mMC mT (d + 1) 21 [.ref 5, .int x] st (some (.int (pI (0 ≤ x ∧ x < st.1 5 1)))) st := by
  refine mI_X1_hasSpade (d := d + 0) (Nat.le_of_ble_eq_true rfl) (fun Q hq => ?_)
  show mW (mMC mT (d + 0)) (0, fun _ => 0) (mAtL P_X1_hasSpade) (some .boolean) Q 0 [some (.ref 5), some (.int x)] [] st
  refine w_blk 1 (pc' := 1) (ls' := [some (.ref 5), some (.int x)]) (sk' := [.int x]) (st' := st) (fun _ h => h) ?_
  refine w_if_lt rfl (fun h1 => ?_) (fun h1 => ?_)
  · refine w_blk 1 (pc' := 17) (ls' := [some (.ref 5), some (.int x)]) (sk' := [.int 0]) (st' := st) (fun _ h => h) ?_
    rw [pI_f (by first | grind | (simp only [Int32.le_iff_toInt_le, Int32.lt_iff_toInt_lt] at *; omega))] at hq
    exact w_iret rfl rfl rfl hq
  · refine w_blk 3 (pc' := 9) (ls' := [some (.ref 5), some (.int x)]) (sk' := [.int (st.1 5 1), .int x]) (st' := st) (fun _ h => h) ?_
    refine w_cmp_ge rfl (fun h2 => ?_) (fun h2 => ?_)
    · refine w_blk 1 (pc' := 17) (ls' := [some (.ref 5), some (.int x)]) (sk' := [.int 0]) (st' := st) (fun _ h => h) ?_
      rw [pI_f (by first | grind | (simp only [Int32.le_iff_toInt_le, Int32.lt_iff_toInt_lt] at *; omega))] at hq
      exact w_iret rfl rfl rfl hq
    · refine w_blk 2 (pc' := 17) (ls' := [some (.ref 5), some (.int x)]) (sk' := [.int 1]) (st' := st) (fun _ h => h) ?_
      rw [pI_t (by first | grind | (simp only [Int32.le_iff_toInt_le, Int32.lt_iff_toInt_lt] at *; omega))] at hq
      exact w_iret rfl rfl rfl hq
set_option maxRecDepth 20000 in
/-- hasSpade(x) -/
theorem c_hasSpade_13 (d : Nat) (x : Int32) (st : mSt) : mMC mT (d + 1) 21 [.ref 13, .int x] st (some (.int (pI (0 ≤ x ∧ x < st.1 13 1)))) st := by
  refine mI_X1_hasSpade (d := d + 0) (Nat.le_of_ble_eq_true rfl) (fun Q hq => ?_)
  show mW (mMC mT (d + 0)) (0, fun _ => 0) (mAtL P_X1_hasSpade) (some .boolean) Q 0 [some (.ref 13), some (.int x)] [] st
  refine w_blk 1 (pc' := 1) (ls' := [some (.ref 13), some (.int x)]) (sk' := [.int x]) (st' := st) (fun _ h => h) ?_
  refine w_if_lt rfl (fun h1 => ?_) (fun h1 => ?_)
  · refine w_blk 1 (pc' := 17) (ls' := [some (.ref 13), some (.int x)]) (sk' := [.int 0]) (st' := st) (fun _ h => h) ?_
    rw [pI_f (by first | grind | (simp only [Int32.le_iff_toInt_le, Int32.lt_iff_toInt_lt] at *; omega))] at hq
    exact w_iret rfl rfl rfl hq
  · refine w_blk 3 (pc' := 9) (ls' := [some (.ref 13), some (.int x)]) (sk' := [.int (st.1 13 1), .int x]) (st' := st) (fun _ h => h) ?_
    refine w_cmp_ge rfl (fun h2 => ?_) (fun h2 => ?_)
    · refine w_blk 1 (pc' := 17) (ls' := [some (.ref 13), some (.int x)]) (sk' := [.int 0]) (st' := st) (fun _ h => h) ?_
      rw [pI_f (by first | grind | (simp only [Int32.le_iff_toInt_le, Int32.lt_iff_toInt_lt] at *; omega))] at hq
      exact w_iret rfl rfl rfl hq
    · refine w_blk 2 (pc' := 17) (ls' := [some (.ref 13), some (.int x)]) (sk' := [.int 1]) (st' := st) (fun _ h => h) ?_
      rw [pI_t (by first | grind | (simp only [Int32.le_iff_toInt_le, Int32.lt_iff_toInt_lt] at *; omega))] at hq
      exact w_iret rfl rfl rfl hq
set_option maxRecDepth 20000 in
/-- hasYard(x) -/
theorem c_hasYard_5 (d : Nat) (x : Int32) (st : mSt) : mMC mT (d + 1) 22 [.ref 5, .int x] st (some (.int (pI (0 ≤ x ∧ x < st.1 5 2)))) st := by
  refine mI_X1_hasYard (d := d + 0) (Nat.le_of_ble_eq_true rfl) (fun Q hq => ?_)
  show mW (mMC mT (d + 0)) (0, fun _ => 0) (mAtL P_X1_hasYard) (some .boolean) Q 0 [some (.ref 5), some (.int x)] [] st
  refine w_blk 1 (pc' := 1) (ls' := [some (.ref 5), some (.int x)]) (sk' := [.int x]) (st' := st) (fun _ h => h) ?_
  refine w_if_lt rfl (fun h1 => ?_) (fun h1 => ?_)
  · refine w_blk 1 (pc' := 17) (ls' := [some (.ref 5), some (.int x)]) (sk' := [.int 0]) (st' := st) (fun _ h => h) ?_
    rw [pI_f (by first | grind | (simp only [Int32.le_iff_toInt_le, Int32.lt_iff_toInt_lt] at *; omega))] at hq
    exact w_iret rfl rfl rfl hq
  · refine w_blk 3 (pc' := 9) (ls' := [some (.ref 5), some (.int x)]) (sk' := [.int (st.1 5 2), .int x]) (st' := st) (fun _ h => h) ?_
    refine w_cmp_ge rfl (fun h2 => ?_) (fun h2 => ?_)
    · refine w_blk 1 (pc' := 17) (ls' := [some (.ref 5), some (.int x)]) (sk' := [.int 0]) (st' := st) (fun _ h => h) ?_
      rw [pI_f (by first | grind | (simp only [Int32.le_iff_toInt_le, Int32.lt_iff_toInt_lt] at *; omega))] at hq
      exact w_iret rfl rfl rfl hq
    · refine w_blk 2 (pc' := 17) (ls' := [some (.ref 5), some (.int x)]) (sk' := [.int 1]) (st' := st) (fun _ h => h) ?_
      rw [pI_t (by first | grind | (simp only [Int32.le_iff_toInt_le, Int32.lt_iff_toInt_lt] at *; omega))] at hq
      exact w_iret rfl rfl rfl hq
set_option maxRecDepth 20000 in
/-- hasYard(x) -/
theorem c_hasYard_13 (d : Nat) (x : Int32) (st : mSt) : mMC mT (d + 1) 22 [.ref 13, .int x] st (some (.int (pI (0 ≤ x ∧ x < st.1 13 2)))) st := by
  refine mI_X1_hasYard (d := d + 0) (Nat.le_of_ble_eq_true rfl) (fun Q hq => ?_)
  show mW (mMC mT (d + 0)) (0, fun _ => 0) (mAtL P_X1_hasYard) (some .boolean) Q 0 [some (.ref 13), some (.int x)] [] st
  refine w_blk 1 (pc' := 1) (ls' := [some (.ref 13), some (.int x)]) (sk' := [.int x]) (st' := st) (fun _ h => h) ?_
  refine w_if_lt rfl (fun h1 => ?_) (fun h1 => ?_)
  · refine w_blk 1 (pc' := 17) (ls' := [some (.ref 13), some (.int x)]) (sk' := [.int 0]) (st' := st) (fun _ h => h) ?_
    rw [pI_f (by first | grind | (simp only [Int32.le_iff_toInt_le, Int32.lt_iff_toInt_lt] at *; omega))] at hq
    exact w_iret rfl rfl rfl hq
  · refine w_blk 3 (pc' := 9) (ls' := [some (.ref 13), some (.int x)]) (sk' := [.int (st.1 13 2), .int x]) (st' := st) (fun _ h => h) ?_
    refine w_cmp_ge rfl (fun h2 => ?_) (fun h2 => ?_)
    · refine w_blk 1 (pc' := 17) (ls' := [some (.ref 13), some (.int x)]) (sk' := [.int 0]) (st' := st) (fun _ h => h) ?_
      rw [pI_f (by first | grind | (simp only [Int32.le_iff_toInt_le, Int32.lt_iff_toInt_lt] at *; omega))] at hq
      exact w_iret rfl rfl rfl hq
    · refine w_blk 2 (pc' := 17) (ls' := [some (.ref 13), some (.int x)]) (sk' := [.int 1]) (st' := st) (fun _ h => h) ?_
      rw [pI_t (by first | grind | (simp only [Int32.le_iff_toInt_le, Int32.lt_iff_toInt_lt] at *; omega))] at hq
      exact w_iret rfl rfl rfl hq
set_option maxRecDepth 20000 in
/-- suits(x, s) -/
theorem c_suits_5 (d : Nat) (x s : Int32) (st : mSt) : mMC mT (d + 2) 26 [.ref 5, .int x, .int s] st (some (.int (pI (celV (st.1 10) 8 s = 0 ∨ celV (st.1 10) 8 s = celV (st.1 8) 6 x + 1)))) st := by
  refine mI_X1_suits (d := d + 1) (Nat.le_of_ble_eq_true rfl) (fun Q hq => ?_)
  show mW (mMC mT (d + 1)) (0, fun _ => 0) (mAtL P_X1_suits) (some .boolean) Q 0 [some (.ref 5), some (.int x), some (.int s), none] [] st
  refine w_blk 3 (pc' := 5) (ls' := [some (.ref 5), some (.int x), some (.int s), none]) (sk' := [.int s, .ref 10]) (st' := st) (fun _ h => h) ?_
  refine w_callS (As := [.ref 10, .int s]) (rest := []) rfl rfl rfl (Nat.le_of_ble_eq_true rfl) (Nat.le_of_ble_eq_true rfl) (c_cell (d + 0) 10 8 s st (by decide) rfl) ?_
  refine w_blk 2 (pc' := 10) (ls' := [some (.ref 5), some (.int x), some (.int s), some (.int (celV (st.1 10) 8 s))]) (sk' := [.int (celV (st.1 10) 8 s)]) (st' := st) (fun _ h => h) ?_
  refine w_if_eq rfl (fun h1 => ?_) (fun h1 => ?_)
  · refine w_blk 2 (pc' := 32) (ls' := [some (.ref 5), some (.int x), some (.int s), some (.int (celV (st.1 10) 8 s))]) (sk' := [.int 1]) (st' := st) (fun _ h => h) ?_
    rw [pI_t (by first | grind | (simp only [Int32.le_iff_toInt_le, Int32.lt_iff_toInt_lt] at *; omega))] at hq
    exact w_iret rfl rfl rfl hq
  · refine w_blk 4 (pc' := 19) (ls' := [some (.ref 5), some (.int x), some (.int s), some (.int (celV (st.1 10) 8 s))]) (sk' := [.int x, .ref 8, .int (celV (st.1 10) 8 s)]) (st' := st) (fun _ h => h) ?_
    refine w_callS (As := [.ref 8, .int x]) (rest := [.int (celV (st.1 10) 8 s)]) rfl rfl rfl (Nat.le_of_ble_eq_true rfl) (Nat.le_of_ble_eq_true rfl) (c_cell (d + 0) 8 6 x st (by decide) rfl) ?_
    refine w_blk 2 (pc' := 24) (ls' := [some (.ref 5), some (.int x), some (.int s), some (.int (celV (st.1 10) 8 s))]) (sk' := [.int ((celV (st.1 8) 6 x) + 1), .int (celV (st.1 10) 8 s)]) (st' := st) (fun _ h => h) ?_
    refine w_cmp_ne rfl (fun h2 => ?_) (fun h2 => ?_)
    · refine w_blk 1 (pc' := 32) (ls' := [some (.ref 5), some (.int x), some (.int s), some (.int (celV (st.1 10) 8 s))]) (sk' := [.int 0]) (st' := st) (fun _ h => h) ?_
      rw [pI_f (by first | grind | (simp only [Int32.le_iff_toInt_le, Int32.lt_iff_toInt_lt] at *; omega))] at hq
      exact w_iret rfl rfl rfl hq
    · refine w_blk 2 (pc' := 32) (ls' := [some (.ref 5), some (.int x), some (.int s), some (.int (celV (st.1 10) 8 s))]) (sk' := [.int 1]) (st' := st) (fun _ h => h) ?_
      rw [pI_t (by first | grind | (simp only [Int32.le_iff_toInt_le, Int32.lt_iff_toInt_lt] at *; omega))] at hq
      exact w_iret rfl rfl rfl hq
set_option maxRecDepth 20000 in
/-- suits(x, s) -/
theorem c_suits_13 (d : Nat) (x s : Int32) (st : mSt) : mMC mT (d + 2) 26 [.ref 13, .int x, .int s] st (some (.int (pI (celV (st.1 18) 8 s = 0 ∨ celV (st.1 18) 8 s = celV (st.1 16) 6 x + 1)))) st := by
  refine mI_X1_suits (d := d + 1) (Nat.le_of_ble_eq_true rfl) (fun Q hq => ?_)
  show mW (mMC mT (d + 1)) (0, fun _ => 0) (mAtL P_X1_suits) (some .boolean) Q 0 [some (.ref 13), some (.int x), some (.int s), none] [] st
  refine w_blk 3 (pc' := 5) (ls' := [some (.ref 13), some (.int x), some (.int s), none]) (sk' := [.int s, .ref 18]) (st' := st) (fun _ h => h) ?_
  refine w_callS (As := [.ref 18, .int s]) (rest := []) rfl rfl rfl (Nat.le_of_ble_eq_true rfl) (Nat.le_of_ble_eq_true rfl) (c_cell (d + 0) 18 8 s st (by decide) rfl) ?_
  refine w_blk 2 (pc' := 10) (ls' := [some (.ref 13), some (.int x), some (.int s), some (.int (celV (st.1 18) 8 s))]) (sk' := [.int (celV (st.1 18) 8 s)]) (st' := st) (fun _ h => h) ?_
  refine w_if_eq rfl (fun h1 => ?_) (fun h1 => ?_)
  · refine w_blk 2 (pc' := 32) (ls' := [some (.ref 13), some (.int x), some (.int s), some (.int (celV (st.1 18) 8 s))]) (sk' := [.int 1]) (st' := st) (fun _ h => h) ?_
    rw [pI_t (by first | grind | (simp only [Int32.le_iff_toInt_le, Int32.lt_iff_toInt_lt] at *; omega))] at hq
    exact w_iret rfl rfl rfl hq
  · refine w_blk 4 (pc' := 19) (ls' := [some (.ref 13), some (.int x), some (.int s), some (.int (celV (st.1 18) 8 s))]) (sk' := [.int x, .ref 16, .int (celV (st.1 18) 8 s)]) (st' := st) (fun _ h => h) ?_
    refine w_callS (As := [.ref 16, .int x]) (rest := [.int (celV (st.1 18) 8 s)]) rfl rfl rfl (Nat.le_of_ble_eq_true rfl) (Nat.le_of_ble_eq_true rfl) (c_cell (d + 0) 16 6 x st (by decide) rfl) ?_
    refine w_blk 2 (pc' := 24) (ls' := [some (.ref 13), some (.int x), some (.int s), some (.int (celV (st.1 18) 8 s))]) (sk' := [.int ((celV (st.1 16) 6 x) + 1), .int (celV (st.1 18) 8 s)]) (st' := st) (fun _ h => h) ?_
    refine w_cmp_ne rfl (fun h2 => ?_) (fun h2 => ?_)
    · refine w_blk 1 (pc' := 32) (ls' := [some (.ref 13), some (.int x), some (.int s), some (.int (celV (st.1 18) 8 s))]) (sk' := [.int 0]) (st' := st) (fun _ h => h) ?_
      rw [pI_f (by first | grind | (simp only [Int32.le_iff_toInt_le, Int32.lt_iff_toInt_lt] at *; omega))] at hq
      exact w_iret rfl rfl rfl hq
    · refine w_blk 2 (pc' := 32) (ls' := [some (.ref 13), some (.int x), some (.int s), some (.int (celV (st.1 18) 8 s))]) (sk' := [.int 1]) (st' := st) (fun _ h => h) ?_
      rw [pI_t (by first | grind | (simp only [Int32.le_iff_toInt_le, Int32.lt_iff_toInt_lt] at *; omega))] at hq
      exact w_iret rfl rfl rfl hq
set_option maxRecDepth 20000 in
/-- product(x, s) -/
theorem c_product_5 (d : Nat) (x s : Int32) (st : mSt) : mMC mT (d + 2) 27 [.ref 5, .int x, .int s] st (some (.int (celV (st.1 6) 6 x * celV (st.1 9) 8 s))) st := by
  refine mI_X1_product (d := d + 1) (Nat.le_of_ble_eq_true rfl) (fun Q hq => ?_)
  show mW (mMC mT (d + 1)) (0, fun _ => 0) (mAtL P_X1_product) (some .int) Q 0 [some (.ref 5), some (.int x), some (.int s)] [] st
  refine w_blk 3 (pc' := 5) (ls' := [some (.ref 5), some (.int x), some (.int s)]) (sk' := [.int x, .ref 6]) (st' := st) (fun _ h => h) ?_
  refine w_callS (As := [.ref 6, .int x]) (rest := []) rfl rfl rfl (Nat.le_of_ble_eq_true rfl) (Nat.le_of_ble_eq_true rfl) (c_cell (d + 0) 6 6 x st (by decide) rfl) ?_
  refine w_blk 3 (pc' := 13) (ls' := [some (.ref 5), some (.int x), some (.int s)]) (sk' := [.int s, .ref 9, .int (celV (st.1 6) 6 x)]) (st' := st) (fun _ h => h) ?_
  refine w_callS (As := [.ref 9, .int s]) (rest := [.int (celV (st.1 6) 6 x)]) rfl rfl rfl (Nat.le_of_ble_eq_true rfl) (Nat.le_of_ble_eq_true rfl) (c_cell (d + 0) 9 8 s st (by decide) rfl) ?_
  refine w_blk 1 (pc' := 17) (ls' := [some (.ref 5), some (.int x), some (.int s)]) (sk' := [.int ((celV (st.1 6) 6 x) * (celV (st.1 9) 8 s))]) (st' := st) (fun _ h => h) ?_
  exact w_iret rfl rfl rfl hq
set_option maxRecDepth 20000 in
/-- product(x, s) -/
theorem c_product_13 (d : Nat) (x s : Int32) (st : mSt) : mMC mT (d + 2) 27 [.ref 13, .int x, .int s] st (some (.int (celV (st.1 14) 6 x * celV (st.1 17) 8 s))) st := by
  refine mI_X1_product (d := d + 1) (Nat.le_of_ble_eq_true rfl) (fun Q hq => ?_)
  show mW (mMC mT (d + 1)) (0, fun _ => 0) (mAtL P_X1_product) (some .int) Q 0 [some (.ref 13), some (.int x), some (.int s)] [] st
  refine w_blk 3 (pc' := 5) (ls' := [some (.ref 13), some (.int x), some (.int s)]) (sk' := [.int x, .ref 14]) (st' := st) (fun _ h => h) ?_
  refine w_callS (As := [.ref 14, .int x]) (rest := []) rfl rfl rfl (Nat.le_of_ble_eq_true rfl) (Nat.le_of_ble_eq_true rfl) (c_cell (d + 0) 14 6 x st (by decide) rfl) ?_
  refine w_blk 3 (pc' := 13) (ls' := [some (.ref 13), some (.int x), some (.int s)]) (sk' := [.int s, .ref 17, .int (celV (st.1 14) 6 x)]) (st' := st) (fun _ h => h) ?_
  refine w_callS (As := [.ref 17, .int s]) (rest := [.int (celV (st.1 14) 6 x)]) rfl rfl rfl (Nat.le_of_ble_eq_true rfl) (Nat.le_of_ble_eq_true rfl) (c_cell (d + 0) 17 8 s st (by decide) rfl) ?_
  refine w_blk 1 (pc' := 17) (ls' := [some (.ref 13), some (.int x), some (.int s)]) (sk' := [.int ((celV (st.1 14) 6 x) * (celV (st.1 17) 8 s))]) (st' := st) (fun _ h => h) ?_
  exact w_iret rfl rfl rfl hq
set_option maxRecDepth 20000 in
/-- clodsOf(y) -/
theorem c_clodsOf_5 (d : Nat) (y : Int32) (st : mSt) : mMC mT (d + 2) 28 [.ref 5, .int y] st (some (.int (celV (st.1 11) 8 y * celV (st.1 12) 8 y))) st := by
  refine mI_X1_clodsOf (d := d + 1) (Nat.le_of_ble_eq_true rfl) (fun Q hq => ?_)
  show mW (mMC mT (d + 1)) (0, fun _ => 0) (mAtL P_X1_clodsOf) (some .int) Q 0 [some (.ref 5), some (.int y)] [] st
  refine w_blk 3 (pc' := 5) (ls' := [some (.ref 5), some (.int y)]) (sk' := [.int y, .ref 11]) (st' := st) (fun _ h => h) ?_
  refine w_callS (As := [.ref 11, .int y]) (rest := []) rfl rfl rfl (Nat.le_of_ble_eq_true rfl) (Nat.le_of_ble_eq_true rfl) (c_cell (d + 0) 11 8 y st (by decide) rfl) ?_
  refine w_blk 3 (pc' := 13) (ls' := [some (.ref 5), some (.int y)]) (sk' := [.int y, .ref 12, .int (celV (st.1 11) 8 y)]) (st' := st) (fun _ h => h) ?_
  refine w_callS (As := [.ref 12, .int y]) (rest := [.int (celV (st.1 11) 8 y)]) rfl rfl rfl (Nat.le_of_ble_eq_true rfl) (Nat.le_of_ble_eq_true rfl) (c_cell (d + 0) 12 8 y st (by decide) rfl) ?_
  refine w_blk 1 (pc' := 17) (ls' := [some (.ref 5), some (.int y)]) (sk' := [.int ((celV (st.1 11) 8 y) * (celV (st.1 12) 8 y))]) (st' := st) (fun _ h => h) ?_
  exact w_iret rfl rfl rfl hq
set_option maxRecDepth 20000 in
/-- clodsOf(y) -/
theorem c_clodsOf_13 (d : Nat) (y : Int32) (st : mSt) : mMC mT (d + 2) 28 [.ref 13, .int y] st (some (.int (celV (st.1 19) 8 y * celV (st.1 20) 8 y))) st := by
  refine mI_X1_clodsOf (d := d + 1) (Nat.le_of_ble_eq_true rfl) (fun Q hq => ?_)
  show mW (mMC mT (d + 1)) (0, fun _ => 0) (mAtL P_X1_clodsOf) (some .int) Q 0 [some (.ref 13), some (.int y)] [] st
  refine w_blk 3 (pc' := 5) (ls' := [some (.ref 13), some (.int y)]) (sk' := [.int y, .ref 19]) (st' := st) (fun _ h => h) ?_
  refine w_callS (As := [.ref 19, .int y]) (rest := []) rfl rfl rfl (Nat.le_of_ble_eq_true rfl) (Nat.le_of_ble_eq_true rfl) (c_cell (d + 0) 19 8 y st (by decide) rfl) ?_
  refine w_blk 3 (pc' := 13) (ls' := [some (.ref 13), some (.int y)]) (sk' := [.int y, .ref 20, .int (celV (st.1 19) 8 y)]) (st' := st) (fun _ h => h) ?_
  refine w_callS (As := [.ref 20, .int y]) (rest := [.int (celV (st.1 19) 8 y)]) rfl rfl rfl (Nat.le_of_ble_eq_true rfl) (Nat.le_of_ble_eq_true rfl) (c_cell (d + 0) 20 8 y st (by decide) rfl) ?_
  refine w_blk 1 (pc' := 17) (ls' := [some (.ref 13), some (.int y)]) (sk' := [.int ((celV (st.1 19) 8 y) * (celV (st.1 20) 8 y))]) (st' := st) (fun _ h => h) ?_
  exact w_iret rfl rfl rfl hq
