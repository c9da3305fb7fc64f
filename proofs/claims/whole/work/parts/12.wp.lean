/-! WALKING IN THE SMALL MACHINE: a row an instruction that asks for something, a row a stretch of those that don't -/
section MWP
variable {C : Nat → List Value → mSt → Option Value → mSt → Prop} {S : Nat × (Nat → Int32)} {P : Nat → Option mE} {rt : Option FieldType} {Q : Option Value → mSt → Prop} {pc : Nat} {ls : mLs} {st : mSt} {r : List Value}
theorem w_blk (k : Nat) {sk : List Value} {pc' : Nat} {ls' : mLs} {sk' : List Value} {st' : mSt} (h : ∀ n, mOk C S P rt Q n pc' ls' sk' st' → mOk C S P rt Q (n + k) pc ls sk st) (hw : mW C S P rt Q pc' ls' sk' st') : mW C S P rt Q pc ls sk st := by
  obtain ⟨n, hn⟩ := hw
  exact ⟨n + k, h n hn⟩
theorem w_step {sk : List Value} {e : mE} (hp : P pc = some e) {pc' : Nat} {ls' : mLs} {sk' : List Value} {st' : mSt} (h : ∀ K : Nat → mLs → List Value → mSt → Prop, K pc' ls' sk' st' → mStep C S rt Q K e pc ls sk st) (hw : mW C S P rt Q pc' ls' sk' st') : mW C S P rt Q pc ls sk st := by
  obtain ⟨n, hn⟩ := hw
  refine ⟨n + 1, ?_⟩
  show match P pc with | none => False | some e => mStep C S rt Q (mOk C S P rt Q n) e pc ls sk st
  rw [hp]
  exact h _ hn
theorem w_end {sk : List Value} {e : mE} (hp : P pc = some e) (h : ∀ K : Nat → mLs → List Value → mSt → Prop, mStep C S rt Q K e pc ls sk st) : mW C S P rt Q pc ls sk st := by
  refine ⟨1, ?_⟩
  show match P pc with | none => False | some e => mStep C S rt Q (mOk C S P rt Q 0) e pc ls sk st
  rw [hp]
  exact h _
theorem w_fork {sk : List Value} {e : mE} {A : Prop} (hp : P pc = some e) {p1 p2 : Nat} {l1 l2 : mLs} {s1 s2 : List Value} {t1 t2 : mSt} (h : ∀ K : Nat → mLs → List Value → mSt → Prop, (A → K p1 l1 s1 t1) → (¬ A → K p2 l2 s2 t2) → mStep C S rt Q K e pc ls sk st) (ht : A → mW C S P rt Q p1 l1 s1 t1) (hf : ¬ A → mW C S P rt Q p2 l2 s2 t2) : mW C S P rt Q pc ls sk st := by
  by_cases hA : A
  · exact w_step hp (fun K k => h K (fun _ => k) (fun n => absurd hA n)) (ht hA)
  · exact w_step hp (fun K k => h K (fun a => absurd a hA) (fun _ => k)) (hf hA)
theorem w_if_eq {x : Int32} {o : Int} {t len : Nat} {z : Int} (hp : P pc = some (.ifCond .eq o, len, [t], z)) (ht : x = 0 → mW C S P rt Q t ls r st) (hf : ¬ (x = 0) → mW C S P rt Q (pc + 3) ls r st) : mW C S P rt Q pc ls (.int x :: r) st := w_fork (A := x = 0) hp (fun _ a b => ⟨a, b⟩) ht hf
theorem w_cmp_eq {x y : Int32} {o : Int} {t len : Nat} {z : Int} (hp : P pc = some (.if_icmp .eq o, len, [t], z)) (ht : x = y → mW C S P rt Q t ls r st) (hf : ¬ (x = y) → mW C S P rt Q (pc + 3) ls r st) : mW C S P rt Q pc ls (.int y :: .int x :: r) st := w_fork (A := x = y) hp (fun _ a b => ⟨a, b⟩) ht hf
theorem w_if_ne {x : Int32} {o : Int} {t len : Nat} {z : Int} (hp : P pc = some (.ifCond .ne o, len, [t], z)) (ht : ¬ x = 0 → mW C S P rt Q t ls r st) (hf : ¬ (¬ x = 0) → mW C S P rt Q (pc + 3) ls r st) : mW C S P rt Q pc ls (.int x :: r) st := w_fork (A := ¬ x = 0) hp (fun _ a b => ⟨a, b⟩) ht hf
theorem w_cmp_ne {x y : Int32} {o : Int} {t len : Nat} {z : Int} (hp : P pc = some (.if_icmp .ne o, len, [t], z)) (ht : ¬ x = y → mW C S P rt Q t ls r st) (hf : ¬ (¬ x = y) → mW C S P rt Q (pc + 3) ls r st) : mW C S P rt Q pc ls (.int y :: .int x :: r) st := w_fork (A := ¬ x = y) hp (fun _ a b => ⟨a, b⟩) ht hf
theorem w_if_lt {x : Int32} {o : Int} {t len : Nat} {z : Int} (hp : P pc = some (.ifCond .lt o, len, [t], z)) (ht : x < 0 → mW C S P rt Q t ls r st) (hf : ¬ (x < 0) → mW C S P rt Q (pc + 3) ls r st) : mW C S P rt Q pc ls (.int x :: r) st := w_fork (A := x < 0) hp (fun _ a b => ⟨a, b⟩) ht hf
theorem w_cmp_lt {x y : Int32} {o : Int} {t len : Nat} {z : Int} (hp : P pc = some (.if_icmp .lt o, len, [t], z)) (ht : x < y → mW C S P rt Q t ls r st) (hf : ¬ (x < y) → mW C S P rt Q (pc + 3) ls r st) : mW C S P rt Q pc ls (.int y :: .int x :: r) st := w_fork (A := x < y) hp (fun _ a b => ⟨a, b⟩) ht hf
theorem w_if_ge {x : Int32} {o : Int} {t len : Nat} {z : Int} (hp : P pc = some (.ifCond .ge o, len, [t], z)) (ht : 0 ≤ x → mW C S P rt Q t ls r st) (hf : ¬ (0 ≤ x) → mW C S P rt Q (pc + 3) ls r st) : mW C S P rt Q pc ls (.int x :: r) st := w_fork (A := 0 ≤ x) hp (fun _ a b => ⟨a, b⟩) ht hf
theorem w_cmp_ge {x y : Int32} {o : Int} {t len : Nat} {z : Int} (hp : P pc = some (.if_icmp .ge o, len, [t], z)) (ht : y ≤ x → mW C S P rt Q t ls r st) (hf : ¬ (y ≤ x) → mW C S P rt Q (pc + 3) ls r st) : mW C S P rt Q pc ls (.int y :: .int x :: r) st := w_fork (A := y ≤ x) hp (fun _ a b => ⟨a, b⟩) ht hf
theorem w_if_gt {x : Int32} {o : Int} {t len : Nat} {z : Int} (hp : P pc = some (.ifCond .gt o, len, [t], z)) (ht : 0 < x → mW C S P rt Q t ls r st) (hf : ¬ (0 < x) → mW C S P rt Q (pc + 3) ls r st) : mW C S P rt Q pc ls (.int x :: r) st := w_fork (A := 0 < x) hp (fun _ a b => ⟨a, b⟩) ht hf
theorem w_cmp_gt {x y : Int32} {o : Int} {t len : Nat} {z : Int} (hp : P pc = some (.if_icmp .gt o, len, [t], z)) (ht : y < x → mW C S P rt Q t ls r st) (hf : ¬ (y < x) → mW C S P rt Q (pc + 3) ls r st) : mW C S P rt Q pc ls (.int y :: .int x :: r) st := w_fork (A := y < x) hp (fun _ a b => ⟨a, b⟩) ht hf
theorem w_if_le {x : Int32} {o : Int} {t len : Nat} {z : Int} (hp : P pc = some (.ifCond .le o, len, [t], z)) (ht : x ≤ 0 → mW C S P rt Q t ls r st) (hf : ¬ (x ≤ 0) → mW C S P rt Q (pc + 3) ls r st) : mW C S P rt Q pc ls (.int x :: r) st := w_fork (A := x ≤ 0) hp (fun _ a b => ⟨a, b⟩) ht hf
theorem w_cmp_le {x y : Int32} {o : Int} {t len : Nat} {z : Int} (hp : P pc = some (.if_icmp .le o, len, [t], z)) (ht : x ≤ y → mW C S P rt Q t ls r st) (hf : ¬ (x ≤ y) → mW C S P rt Q (pc + 3) ls r st) : mW C S P rt Q pc ls (.int y :: .int x :: r) st := w_fork (A := x ≤ y) hp (fun _ a b => ⟨a, b⟩) ht hf
theorem w_div {x y : Int32} {len : Nat} {aux : List Nat} {z : Int} (hp : P pc = some (.idiv, len, aux, z)) (hne : ¬ y = 0) (k : mW C S P rt Q (pc + 1) ls (.int (x / y) :: r) st) : mW C S P rt Q pc ls (.int y :: .int x :: r) st := w_step hp (fun _ k => ⟨hne, k⟩) k
theorem w_rem {x y : Int32} {len : Nat} {aux : List Nat} {z : Int} (hp : P pc = some (.irem, len, aux, z)) (hne : ¬ y = 0) (k : mW C S P rt Q (pc + 1) ls (.int (x - x / y * y) :: r) st) : mW C S P rt Q pc ls (.int y :: .int x :: r) st := w_step hp (fun _ k => ⟨hne, k⟩) k
theorem vp_in_nat {i : Int32} {n : Nat} (h : vp_in i n) : i.toNatClampNeg < n := Nat.not_le.mp fun q => h (Or.inr q)
theorem w_iald {i : Int32} {a n len : Nat} {fs : List (Nat × Nat)} {aux : List Nat} {z : Int} (hp : P pc = some (.iaload, len, aux, z)) (hl : lay a = (0, n, fs)) (hin : vp_in i n) (k : mW C S P rt Q (pc + 1) ls (.int (st.1 a i.toNatClampNeg) :: r) st) : mW C S P rt Q pc ls (.int i :: .ref a :: r) st := w_step hp (fun K k => by
  show match lay a with
      | (0, n, _) => vp_in i n ∧ K (pc + 1) ls (.int (st.1 a i.toNatClampNeg) :: r) st
      | (7, _, _) => vp_in i (S.1 - 1) ∧ K (pc + 1) ls (.int (S.2 i.toNatClampNeg) :: r) st
      | _ => False
  rw [hl]
  exact ⟨hin, k⟩) k
theorem w_sald {i : Int32} {n len : Nat} {fs : List (Nat × Nat)} {aux : List Nat} {z : Int} (hp : P pc = some (.iaload, len, aux, z)) (hin : vp_in i (S.1 - 1)) (k : mW C S P rt Q (pc + 1) ls (.int (S.2 i.toNatClampNeg) :: r) st) : mW C S P rt Q pc ls (.int i :: .ref 120 :: r) st := w_step hp (fun K k => ⟨hin, k⟩) k
theorem w_slen {len : Nat} {aux : List Nat} {z : Int} (hp : P pc = some (.arraylength, len, aux, z)) (h0 : 0 < S.1) (k : mW C S P rt Q (pc + 1) ls (.int (Int32.ofNat (S.1 - 1)) :: r) st) : mW C S P rt Q pc ls (.ref 120 :: r) st := w_step hp (fun K k => ⟨h0, k⟩) k
theorem w_alen {a n len : Nat} {fs : List (Nat × Nat)} {aux : List Nat} {z : Int} (hp : P pc = some (.arraylength, len, aux, z)) (hl : lay a = (0, n, fs)) (k : mW C S P rt Q (pc + 1) ls (.int (nI n) :: r) st) : mW C S P rt Q pc ls (.ref a :: r) st := w_step hp (fun K k => by
  show match lay a with
      | (0, n, _) => K (pc + 1) ls (.int (Int32.ofNat n) :: r) st
      | (1, n, _) => K (pc + 1) ls (.int (Int32.ofNat n) :: r) st
      | (2, n, _) => K (pc + 1) ls (.int (Int32.ofNat n) :: r) st
      | (3, n, _) => K (pc + 1) ls (.int (Int32.ofNat n) :: r) st
      | (6, j, _) => K (pc + 1) ls (.int (Int32.ofNat (lenK.getD j 0)) :: r) st
      | (7, _, _) => 0 < S.1 ∧ K (pc + 1) ls (.int (Int32.ofNat (S.1 - 1)) :: r) st
      | _ => False
  rw [hl]
  exact k) k
theorem w_bald1 {i : Int32} {a n len : Nat} {fs : List (Nat × Nat)} {aux : List Nat} {z : Int} (hp : P pc = some (.baload, len, aux, z)) (hl : lay a = (1, n, fs)) (hin : vp_in i n) (k : mW C S P rt Q (pc + 1) ls (.int (st.1 a i.toNatClampNeg) :: r) st) : mW C S P rt Q pc ls (.int i :: .ref a :: r) st := w_step hp (fun K k => by
  show match lay a with
      | (1, n, _) => vp_in i n ∧ K (pc + 1) ls (.int (st.1 a i.toNatClampNeg) :: r) st
      | (2, n, _) => vp_in i n ∧ K (pc + 1) ls (.int (st.1 a i.toNatClampNeg) :: r) st
      | (6, j, _) => vp_in i (lenK.getD j 0) ∧ K (pc + 1) ls (.int ((bytK.getD j []).getD i.toNatClampNeg 0) :: r) st
      | _ => False
  rw [hl]
  exact ⟨hin, k⟩) k
theorem w_bald2 {i : Int32} {a n len : Nat} {fs : List (Nat × Nat)} {aux : List Nat} {z : Int} (hp : P pc = some (.baload, len, aux, z)) (hl : lay a = (2, n, fs)) (hin : vp_in i n) (k : mW C S P rt Q (pc + 1) ls (.int (st.1 a i.toNatClampNeg) :: r) st) : mW C S P rt Q pc ls (.int i :: .ref a :: r) st := w_step hp (fun K k => by
  show match lay a with
      | (1, n, _) => vp_in i n ∧ K (pc + 1) ls (.int (st.1 a i.toNatClampNeg) :: r) st
      | (2, n, _) => vp_in i n ∧ K (pc + 1) ls (.int (st.1 a i.toNatClampNeg) :: r) st
      | (6, j, _) => vp_in i (lenK.getD j 0) ∧ K (pc + 1) ls (.int ((bytK.getD j []).getD i.toNatClampNeg 0) :: r) st
      | _ => False
  rw [hl]
  exact ⟨hin, k⟩) k
theorem w_bald6 {i : Int32} {a j len : Nat} {fs : List (Nat × Nat)} {aux : List Nat} {z : Int} (hp : P pc = some (.baload, len, aux, z)) (hl : lay a = (6, j, fs)) (hin : vp_in i (lenK.getD j 0)) (k : mW C S P rt Q (pc + 1) ls (.int ((bytK.getD j []).getD i.toNatClampNeg 0) :: r) st) : mW C S P rt Q pc ls (.int i :: .ref a :: r) st := w_step hp (fun K k => by
  show match lay a with
      | (1, n, _) => vp_in i n ∧ K (pc + 1) ls (.int (st.1 a i.toNatClampNeg) :: r) st
      | (2, n, _) => vp_in i n ∧ K (pc + 1) ls (.int (st.1 a i.toNatClampNeg) :: r) st
      | (6, j, _) => vp_in i (lenK.getD j 0) ∧ K (pc + 1) ls (.int ((bytK.getD j []).getD i.toNatClampNeg 0) :: r) st
      | _ => False
  rw [hl]
  exact ⟨hin, k⟩) k
theorem w_aald {i : Int32} {a n len q : Nat} {fs : List (Nat × Nat)} {f : Nat × Nat} {aux : List Nat} {z : Int} (hp : P pc = some (.aaload, len, aux, z)) (hl : lay a = (3, n, fs)) (hin : vp_in i n) (hf : fs[i.toNatClampNeg]? = some f) (k : mW C S P rt Q (pc + 1) ls (.ref f.2 :: r) st) : mW C S P rt Q pc ls (.int i :: .ref a :: r) st := w_step hp (fun K k => by
  show match lay a with
      | (3, n, fs) => vp_in i n ∧ match fs[i.toNatClampNeg]? with | some f => K (pc + 1) ls (.ref f.2 :: r) st | none => False
      | _ => False
  rw [hl]
  refine ⟨hin, ?_⟩
  rw [hf]
  exact k) k
theorem w_iast {x i : Int32} {a n len : Nat} {fs : List (Nat × Nat)} {aux : List Nat} {z : Int} (hp : P pc = some (.iastore, len, aux, z)) (hl : lay a = (0, n, fs)) (hin : vp_in i n) (k : mW C S P rt Q (pc + 1) ls r (mU st.1 a i.toNatClampNeg x, st.2)) : mW C S P rt Q pc ls (.int x :: .int i :: .ref a :: r) st := w_step hp (fun K k => by
  show match lay a with
      | (0, n, _) => vp_in i n ∧ K (pc + 1) ls r (mU st.1 a i.toNatClampNeg x, st.2)
      | _ => False
  rw [hl]
  exact ⟨hin, k⟩) k
theorem w_bast1 {x i : Int32} {a n len : Nat} {fs : List (Nat × Nat)} {aux : List Nat} {z : Int} (hp : P pc = some (.bastore, len, aux, z)) (hl : lay a = (1, n, fs)) (hin : vp_in i n) (k : mW C S P rt Q (pc + 1) ls r (mU st.1 a i.toNatClampNeg (vp_nar .byte x), st.2)) : mW C S P rt Q pc ls (.int x :: .int i :: .ref a :: r) st := w_step hp (fun K k => by
  show match lay a with
      | (1, n, _) => vp_in i n ∧ K (pc + 1) ls r (mU st.1 a i.toNatClampNeg (vp_nar .byte x), st.2)
      | (2, n, _) => vp_in i n ∧ K (pc + 1) ls r (mU st.1 a i.toNatClampNeg (vp_nar .boolean x), st.2)
      | _ => False
  rw [hl]
  exact ⟨hin, k⟩) k
theorem w_bast2 {x i : Int32} {a n len : Nat} {fs : List (Nat × Nat)} {aux : List Nat} {z : Int} (hp : P pc = some (.bastore, len, aux, z)) (hl : lay a = (2, n, fs)) (hin : vp_in i n) (hx : x = 0 ∨ x = 1) (k : mW C S P rt Q (pc + 1) ls r (mU st.1 a i.toNatClampNeg x, st.2)) : mW C S P rt Q pc ls (.int x :: .int i :: .ref a :: r) st := w_step hp (fun K k => by
  show match lay a with
      | (1, n, _) => vp_in i n ∧ K (pc + 1) ls r (mU st.1 a i.toNatClampNeg (vp_nar .byte x), st.2)
      | (2, n, _) => vp_in i n ∧ K (pc + 1) ls r (mU st.1 a i.toNatClampNeg (vp_nar .boolean x), st.2)
      | _ => False
  rw [hl]
  have e : vp_nar .boolean x = x := by rcases hx with rfl | rfl <;> rfl
  rw [e]
  exact ⟨hin, k⟩) k
theorem w_putZ {x : Int32} {i p c k0 len : Nat} {w : List Nat} {fs : List (Nat × Nat)} {q : Nat} {z : Int} (hp : P pc = some (.putfield i, len, c :: k0 :: w, z)) (hl : lay p = (4, c, fs)) (hf : fs[k0]? = some (5, q)) (hx : x = 0 ∨ x = 1) (k : mW C S P rt Q (pc + 3) ls r (mU st.1 p k0 x, st.2)) : mW C S P rt Q pc ls (.int x :: .ref p :: r) st := w_step hp (fun K k => by
  show match lay p with
      | (4, c', fs) => bif Nat.beq c' c then (match fs[k0]?, (Value.int x) with
        | some (0, _), .int x => K (pc + 3) ls r (mU st.1 p k0 x, st.2)
        | some (5, _), .int x => (x = 0 ∨ x = 1) ∧ K (pc + 3) ls r (mU st.1 p k0 x, st.2)
        | some (1, _), .long x => K (pc + 3) ls r (st.1, mUL st.2 p k0 x)
        | some (3, _), .ref q => bif Nat.blt q 86 then K (pc + 3) ls r (mU st.1 p k0 (nI q), st.2) else False
        | _, _ => False) else False
      | _ => False
  rw [hl]
  have e : Nat.beq c c = true := Nat.beq_refl c
  simp only [e, cond_true, hf]
  exact ⟨hx, k⟩) k
theorem w_aload_n {i : Fin 4} {a len : Nat} {aux : List Nat} {z : Int} (hp : P pc = some (.aload_n i, len, aux, z)) (hg : mGet ls i = some (.ref a)) (ha : Nat.beq a 130 = false) (k : mW C S P rt Q (pc + 1) ls (.ref a :: r) st) : mW C S P rt Q pc ls r st := w_step hp (fun K k => by
  show match mGet ls i with | some (.ref x) => (bif Nat.beq x 130 then False else K (pc + 1) ls (.ref x :: r) st) | some .null => K (pc + 1) ls (.null :: r) st | _ => False
  rw [hg]
  simp only [ha, cond_false]
  exact k) k
theorem w_callS {i z n len : Nat} {t : List Nat} {c : Int} {sk As rest : List Value} {v : Option Value} {st1 : mSt} (hp : P pc = some (.invokestatic i, len, z :: n :: t, c)) (hA : (sk.take n).reverse = As) (hr : sk.drop n = rest) (hn : n ≤ sk.length) (hc : mCat rest ≤ 8) (hC : C z As st v st1) (k : mW C S P rt Q (pc + 3) ls (v.toList ++ rest) st1) : mW C S P rt Q pc ls sk st := w_step hp (fun K k => by
  subst hA; subst hr
  exact ⟨hn, hc, v, st1, hC, k⟩) k
theorem w_callV {i z n ci len : Nat} {t : List Nat} {c : Int} {sk As rest : List Value} {v : Option Value} {st1 : mSt} (hp : P pc = some (.invokevirtual i, len, z :: n :: ci :: t, c)) (hA : (sk.take (n + 1)).reverse = As) (hr : sk.drop (n + 1) = rest) (hn : n + 1 ≤ sk.length) (hc : mCat rest ≤ 8) (hrc : mRecv ci (sk.getD n .null)) (hC : C z As st v st1) (k : mW C S P rt Q (pc + 3) ls (v.toList ++ rest) st1) : mW C S P rt Q pc ls sk st := w_step hp (fun K k => by
  subst hA; subst hr
  exact ⟨hn, hc, hrc, v, st1, hC, k⟩) k
theorem w_iret {v : Int32} {ty : FieldType} {len : Nat} {aux : List Nat} {z : Int} (hp : P pc = some (.ireturn, len, aux, z)) (hrt : rt = some ty) (hn : narrow ty (.int v) = .int v) (hq : Q (some (.int v)) st) : mW C S P rt Q pc ls [.int v] st := w_end hp (fun _ => ⟨⟨ty, hrt, hn⟩, hq⟩)
theorem w_lret {v : Int64} {len : Nat} {aux : List Nat} {z : Int} (hp : P pc = some (.lreturn, len, aux, z)) (hrt : rt = some .long) (hq : Q (some (.long v)) st) : mW C S P rt Q pc ls [.long v] st := w_end hp (fun _ => ⟨hrt, hq⟩)
theorem w_aret {a len : Nat} {n : String} {aux : List Nat} {z : Int} (hp : P pc = some (.areturn, len, aux, z)) (hrt : rt = some (.object n)) (ha : a ≠ 130) (hq : Q (some (.ref a)) st) : mW C S P rt Q pc ls [.ref a] st := w_end hp (fun _ => ⟨⟨⟨n, hrt⟩, ha⟩, hq⟩)
theorem w_aretN {len : Nat} {n : String} {aux : List Nat} {z : Int} (hp : P pc = some (.areturn, len, aux, z)) (hrt : rt = some (.object n)) (hq : Q (some .null) st) : mW C S P rt Q pc ls [.null] st := w_end hp (fun _ => ⟨⟨n, hrt⟩, hq⟩)
theorem w_vret {len : Nat} {aux : List Nat} {z : Int} (hp : P pc = some (.return_, len, aux, z)) (hrt : rt = none) (hq : Q none st) : mW C S P rt Q pc ls [] st := w_end hp (fun _ => ⟨hrt, hq⟩)
theorem w_tblOut {x : Int32} {d lo hi : Int} {offs : Array Int} {t len : Nat} {aux : List Nat} {z : Int} (hp : P pc = some (.tableswitch d lo hi offs, len, aux, z)) (h : x.toInt < lo ∨ hi < x.toInt) (ht : (pc : Int) + d = (t : Int)) (k : mW C S P rt Q t ls r st) : mW C S P rt Q pc ls (.int x :: r) st := w_step hp (fun K k => by
  show if x.toInt < lo ∨ hi < x.toInt then mJ pc d ∧ K (mTgt pc d) ls r st else match offs[(x.toInt - lo).toNat]? with | some o => mJ pc o ∧ K (mTgt pc o) ls r st | none => False
  rw [if_pos h]
  refine ⟨by unfold mJ; omega, ?_⟩
  have e : mTgt pc d = t := by unfold mTgt; omega
  rw [e]
  exact k) k
theorem w_tblIn {x : Int32} {d lo hi o : Int} {offs : Array Int} {t len : Nat} {aux : List Nat} {z : Int} (hp : P pc = some (.tableswitch d lo hi offs, len, aux, z)) (h1 : lo ≤ x.toInt) (h2 : x.toInt ≤ hi) (ho : offs[(x.toInt - lo).toNat]? = some o) (ht : (pc : Int) + o = (t : Int)) (k : mW C S P rt Q t ls r st) : mW C S P rt Q pc ls (.int x :: r) st := w_step hp (fun K k => by
  show if x.toInt < lo ∨ hi < x.toInt then mJ pc d ∧ K (mTgt pc d) ls r st else match offs[(x.toInt - lo).toNat]? with | some o => mJ pc o ∧ K (mTgt pc o) ls r st | none => False
  rw [if_neg (by omega), ho]
  refine ⟨by unfold mJ; omega, ?_⟩
  have e : mTgt pc o = t := by unfold mTgt; omega
  rw [e]
  exact k) k
theorem w_lookup {x : Int32} {d o : Int} {ps : Array (Int × Int)} {t len : Nat} {aux : List Nat} {z : Int} (hp : P pc = some (.lookupswitch d ps, len, aux, z)) (hs : (ps.toList.zip (ps.toList.drop 1)).all (fun (a, next) => a.1 < next.1) = true) (ho : Op.lookupswitch.offset ps.toList d x.toInt = o) (ht : (pc : Int) + o = (t : Int)) (k : mW C S P rt Q t ls r st) : mW C S P rt Q pc ls (.int x :: r) st := w_step hp (fun K k => by
  refine ⟨hs, ?_, ?_⟩
  · rw [ho]; unfold mJ; omega
  · have e : mTgt pc (Op.lookupswitch.offset ps.toList d x.toInt) = t := by rw [ho]; unfold mTgt; omega
    rw [e]
    exact k) k
end MWP
/-- a method of the table does what its rows do -/
theorem mMC_of {d z : Nat} {args : List Value} {st st1 : mSt} {v : Option Value} {q : mM} (hq : mT[z]? = some q) (hl : (mArgs args).length ≤ q.2.2.1) (h : mW (mMC mT d) (0, fun _ => 0) (mAtL q.2.2.2.2.2.2.2) q.2.2.2.1 (fun r s => r = v ∧ s = st1) 0 (mEntry args q.2.2.1) [] st) : mMC mT (d + 1) z args st v st1 := ⟨q, hq, hl, h⟩
