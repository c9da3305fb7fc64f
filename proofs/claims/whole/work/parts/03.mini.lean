/-! THE SMALL MACHINE: one state of numbers for all cells of both objects, a step, a run, calls by number -/
/-- ints and longs: place, index -/
abbrev mSt : Type := (Nat → Nat → Int32) × (Nat → Nat → Int64)
/-- a row of code: the instruction, its length, numbers (class, field, callee, places of words), a constant -/
abbrev mE : Type := Instr × Nat × List Nat × Int
abbrev mLs : Type := List (Option Value)
def mU (f : Nat → Nat → Int32) (p k : Nat) (x : Int32) : Nat → Nat → Int32 := fun q => if q = p then upd (f p) k x else f q
def mUL (f : Nat → Nat → Int64) (p k : Nat) (x : Int64) : Nat → Nat → Int64 := fun q => if q = p then vp_updL (f p) k x else f q
/-- the layout of the 86 cells: kind (0 int row, 1 byte row, 2 boolean row, 3 row of images, 4 object), its length or class, its fields or elements (0 int, 1 long, 2 a fixed cell, 3 a cell told by an int, 5 boolean) -/
def layL : List (Nat × Nat × List (Nat × Nat)) := [(4, 9, [(2, 1), (3, 0), (3, 0), (2, 21), (2, 24), (0, 0), (2, 31), (2, 34), (2, 42), (2, 44), (2, 45), (2, 49), (1, 0)]), (4, 7, [(0, 0), (2, 2), (2, 3), (2, 4), (0, 0), (5, 0)]), (0, 300, []), (0, 301, []), (0, 301, []), (4, 1, [(0, 0), (0, 0), (0, 0), (2, 6), (2, 7), (2, 8), (2, 9), (2, 10), (2, 11), (2, 12)]), (0, 6, []), (0, 6, []), (0, 6, []), (0, 8, []), (0, 8, []), (0, 8, []), (0, 8, []), (4, 1, [(0, 0), (0, 0), (0, 0), (2, 14), (2, 15), (2, 16), (2, 17), (2, 18), (2, 19), (2, 20)]), (0, 6, []), (0, 6, []), (0, 6, []), (0, 8, []), (0, 8, []), (0, 8, []), (0, 8, []), (4, 5, [(0, 0), (0, 0), (0, 0), (0, 0), (0, 0), (0, 0), (0, 0), (2, 22), (2, 23)]), (0, 6, []), (0, 8, []), (3, 2, [(2, 25), (2, 28)]), (4, 5, [(0, 0), (0, 0), (0, 0), (0, 0), (0, 0), (0, 0), (0, 0), (2, 26), (2, 27)]), (0, 6, []), (0, 8, []), (4, 5, [(0, 0), (0, 0), (0, 0), (0, 0), (0, 0), (0, 0), (0, 0), (2, 29), (2, 30)]), (0, 6, []), (0, 8, []), (4, 0, [(0, 0), (2, 32), (0, 0), (1, 0), (2, 33)]), (0, 6, []), (0, 8, []), (4, 2, [(0, 0), (2, 35), (2, 36), (2, 37), (2, 38), (2, 39), (2, 40), (2, 41)]), (0, 6, []), (0, 6, []), (0, 8, []), (0, 6, []), (0, 8, []), (0, 6, []), (0, 8, []), (4, 6, [(0, 0), (0, 0), (0, 0), (0, 0), (2, 43)]), (0, 64, []), (4, 4, [(0, 0), (0, 0), (0, 0), (0, 0), (0, 0), (0, 0), (0, 0)]), (4, 3, [(0, 0), (2, 46), (2, 47), (2, 48)]), (0, 8, []), (0, 8, []), (0, 8, []), (4, 8, [(0, 0), (2, 50), (2, 51), (2, 52)]), (0, 30, []), (0, 30, []), (0, 30, []), (4, 10, [(1, 0), (2, 54), (0, 0), (2, 55), (2, 56), (2, 57), (2, 58), (2, 59), (2, 60), (2, 61), (2, 62), (2, 63), (2, 64), (0, 0), (0, 0), (0, 0), (0, 0), (0, 0), (2, 65), (2, 66), (2, 67), (2, 68), (2, 69), (2, 70), (2, 71), (2, 72), (2, 73), (2, 74), (2, 75), (2, 76), (2, 77), (2, 78), (0, 0), (0, 0), (2, 79), (2, 80), (2, 81), (2, 82), (0, 0), (2, 83), (2, 84), (2, 85)]), (1, 300, []), (0, 2, []), (0, 12, []), (0, 12, []), (0, 12, []), (0, 2, []), (0, 16, []), (0, 16, []), (0, 2, []), (0, 16, []), (0, 16, []), (0, 60, []), (2, 2, []), (2, 48, []), (2, 48, []), (0, 6, []), (0, 8, []), (0, 6, []), (0, 8, []), (0, 6, []), (0, 8, []), (0, 6, []), (0, 3, []), (0, 3, []), (0, 8, []), (0, 8, []), (0, 8, []), (0, 8, []), (0, 8, []), (0, 30, []), (0, 30, []), (0, 30, [])]
/-- beyond: 100 .. the five texts, 110 .. their bytes, 120 the script, 130 a thing that nobody looks at -/
def lay (p : Nat) : Nat × Nat × List (Nat × Nat) :=
  if p < 86 then layL.getD p (9, 0, []) else if 100 ≤ p ∧ p < 105 then (5, p - 100, []) else if 110 ≤ p ∧ p < 115 then (6, p - 110, []) else if p = 120 then (7, 0, []) else (9, 0, [])
def lenK : List Nat := [6, 5, 4, 5, 4]
def bytK : List (List Int32) := [[100, 105, 103, 103, 101, 114], [115, 112, 97, 100, 101], [121, 97, 114, 100], [114, 105, 103, 104, 116], [108, 101, 102, 116]]
def mFld (st : mSt) (p k : Nat) (f : Nat × Nat) : Value := match f.1 with
  | 0 => .int (st.1 p k)
  | 5 => .int (st.1 p k)
  | 1 => .long (st.2 p k)
  | 2 => .ref f.2
  | _ => .ref (st.1 p k).toNatClampNeg
def mGet (ls : mLs) (i : Nat) : Option Value := ls.getD i none
def mKill (ls : mLs) (i : Nat) : mLs := match i with
  | 0 => ls
  | j + 1 => match ls.getD j none with
    | some v => if v.category = 2 then ls.set j none else ls
    | none => ls
def mSet1 (ls : mLs) (i : Nat) (v : Value) : mLs := (mKill ls i).set i (some v)
def mSet2 (ls : mLs) (i : Nat) (v : Value) : mLs := ((mKill ls i).set i (some v)).set (i + 1) none
def mTgt (pc : Nat) (off : Int) : Nat := ((pc : Int) + off).toNat
def mJ (pc : Nat) (off : Int) : Prop := 0 ≤ (pc : Int) + off
def mCat (l : List Value) : Nat := (l.map fun v => v.category).sum
/-- the receiver of a call of a method of class c (50: a text) -/
def mRecv (c : Nat) (v : Value) : Prop := match v with
  | .ref p => ((lay p).1 = 4 ∧ (lay p).2.1 = c) ∨ ((lay p).1 = 5 ∧ c = 50)
  | _ => False
def mIf (c : ClassFile.Cond) (x y : Int32) : Prop := match c with
  | .eq => x = y
  | .ne => ¬ x = y
  | .lt => x < y
  | .ge => y ≤ x
  | .gt => y < x
  | .le => x ≤ y
/-- an answer that a method of this kind may give -/
def mRet (rt : Option FieldType) (v : Option Value) : Prop := match v with
  | none => rt = none
  | some (.int x) => ∃ ty, rt = some ty ∧ narrow ty (.int x) = .int x
  | some (.long _) => rt = some .long
  | some (.ref a) => (∃ n, rt = some (.object n)) ∧ a ≠ 130
  | some .null => ∃ n, rt = some (.object n)
  | _ => False
/-- one step: 'K' is what holds of the state behind it -/
def mStep (C : Nat → List Value → mSt → Option Value → mSt → Prop) (S : Nat × (Nat → Int32)) (rt : Option FieldType) (Q : Option Value → mSt → Prop) (K : Nat → mLs → List Value → mSt → Prop) (e : mE) (pc : Nat) (ls : mLs) (sk : List Value) (st : mSt) : Prop :=
  match e.1 with
  | .iconst n => K (pc + 1) ls (.int (Int32.ofInt n) :: sk) st
  | .bipush n => K (pc + 2) ls (.int (Int8.ofInt n).toInt32 :: sk) st
  | .sipush n => K (pc + 3) ls (.int (Int16.ofInt n).toInt32 :: sk) st
  | .lconst n => K (pc + 1) ls (.long (Int64.ofNat (n : Nat)) :: sk) st
  | .aconst_null => K (pc + 1) ls (.null :: sk) st
  | .ldc _ => match e.2.2.1 with
    | [0, _] => K (pc + 2) ls (.int (Int32.ofInt e.2.2.2) :: sk) st
    | [1, i] => K (pc + 2) ls (.ref (100 + i) :: sk) st
    | _ => False
  | .ldc_w _ => match e.2.2.1 with | [_] => K (pc + 3) ls (.int (Int32.ofInt e.2.2.2) :: sk) st | _ => False
  | .ldc2_w _ => match e.2.2.1 with | [_] => K (pc + 3) ls (.long (Int64.ofInt e.2.2.2) :: sk) st | _ => False
  | .iload_n i => match mGet ls i with | some (.int x) => K (pc + 1) ls (.int x :: sk) st | _ => False
  | .iload i => match mGet ls i with | some (.int x) => K (pc + 2) ls (.int x :: sk) st | _ => False
  | .lload_n i => match mGet ls i with | some (.long x) => K (pc + 1) ls (.long x :: sk) st | _ => False
  | .lload i => match mGet ls i with | some (.long x) => K (pc + 2) ls (.long x :: sk) st | _ => False
  | .aload_n i => match mGet ls i with | some (.ref x) => bif Nat.beq x 130 then False else K (pc + 1) ls (.ref x :: sk) st | some .null => K (pc + 1) ls (.null :: sk) st | _ => False
  | .aload i => match mGet ls i with | some (.ref x) => bif Nat.beq x 130 then False else K (pc + 2) ls (.ref x :: sk) st | some .null => K (pc + 2) ls (.null :: sk) st | _ => False
  | .istore_n i => match sk with | .int x :: r => bif Nat.blt i ls.length then K (pc + 1) (mSet1 ls i (.int x)) r st else False | _ => False
  | .istore i => match sk with | .int x :: r => bif Nat.blt i ls.length then K (pc + 2) (mSet1 ls i (.int x)) r st else False | _ => False
  | .lstore_n i => match sk with | .long x :: r => bif Nat.blt (i + 1) ls.length then K (pc + 1) (mSet2 ls i (.long x)) r st else False | _ => False
  | .lstore i => match sk with | .long x :: r => bif Nat.blt (i + 1) ls.length then K (pc + 2) (mSet2 ls i (.long x)) r st else False | _ => False
  | .astore_n i => match sk with | .ref x :: r => bif Nat.blt i ls.length && !(Nat.beq x 130) then K (pc + 1) (mSet1 ls i (.ref x)) r st else False | .null :: r => bif Nat.blt i ls.length then K (pc + 1) (mSet1 ls i .null) r st else False | _ => False
  | .astore i => match sk with | .ref x :: r => bif Nat.blt i ls.length && !(Nat.beq x 130) then K (pc + 2) (mSet1 ls i (.ref x)) r st else False | .null :: r => bif Nat.blt i ls.length then K (pc + 2) (mSet1 ls i .null) r st else False | _ => False
  | .iinc i n => match mGet ls i with | some (.int x) => bif Nat.blt i ls.length then K (pc + 3) (mSet1 ls i (.int (x + Int32.ofInt n))) sk st else False | _ => False
  | .iadd => match sk with | .int y :: .int x :: r => K (pc + 1) ls (.int (x + y) :: r) st | _ => False
  | .isub => match sk with | .int y :: .int x :: r => K (pc + 1) ls (.int (x - y) :: r) st | _ => False
  | .imul => match sk with | .int y :: .int x :: r => K (pc + 1) ls (.int (x * y) :: r) st | _ => False
  | .idiv => match sk with | .int y :: .int x :: r => ¬ y = 0 ∧ K (pc + 1) ls (.int (x / y) :: r) st | _ => False
  | .irem => match sk with | .int y :: .int x :: r => ¬ y = 0 ∧ K (pc + 1) ls (.int (x - x / y * y) :: r) st | _ => False
  | .ineg => match sk with | .int x :: r => K (pc + 1) ls (.int (-x) :: r) st | _ => False
  | .iand => match sk with | .int y :: .int x :: r => K (pc + 1) ls (.int (x &&& y) :: r) st | _ => False
  | .ior => match sk with | .int y :: .int x :: r => K (pc + 1) ls (.int (x ||| y) :: r) st | _ => False
  | .ixor => match sk with | .int y :: .int x :: r => K (pc + 1) ls (.int (x ^^^ y) :: r) st | _ => False
  | .ishl => match sk with | .int y :: .int x :: r => K (pc + 1) ls (.int (x <<< (y &&& 31)) :: r) st | _ => False
  | .ishr => match sk with | .int y :: .int x :: r => K (pc + 1) ls (.int (x >>> (y &&& 31)) :: r) st | _ => False
  | .iushr => match sk with | .int y :: .int x :: r => K (pc + 1) ls (.int (x.toUInt32 >>> (y.toUInt32 &&& Int32.toUInt32 31)).toInt32 :: r) st | _ => False
  | .ladd => match sk with | .long y :: .long x :: r => K (pc + 1) ls (.long (x + y) :: r) st | _ => False
  | .lsub => match sk with | .long y :: .long x :: r => K (pc + 1) ls (.long (x - y) :: r) st | _ => False
  | .land => match sk with | .long y :: .long x :: r => K (pc + 1) ls (.long (x &&& y) :: r) st | _ => False
  | .lor => match sk with | .long y :: .long x :: r => K (pc + 1) ls (.long (x ||| y) :: r) st | _ => False
  | .lshl => match sk with | .int y :: .long x :: r => K (pc + 1) ls (.long (x <<< (y.toInt64 &&& 63)) :: r) st | _ => False
  | .lshr => match sk with | .int y :: .long x :: r => K (pc + 1) ls (.long (x >>> (y.toInt64 &&& 63)) :: r) st | _ => False
  | .lushr => match sk with | .int y :: .long x :: r => K (pc + 1) ls (.long (x.toUInt64 >>> (y.toInt64.toUInt64 &&& Int64.toUInt64 63)).toInt64 :: r) st | _ => False
  | .lcmp => match sk with | .long y :: .long x :: r => K (pc + 1) ls (.int (lg_cmp x y) :: r) st | _ => False
  | .i2l => match sk with | .int x :: r => K (pc + 1) ls (.long x.toInt64 :: r) st | _ => False
  | .l2i => match sk with | .long x :: r => K (pc + 1) ls (.int x.toInt32 :: r) st | _ => False
  | .i2b => match sk with | .int x :: r => K (pc + 1) ls (.int x.toInt8.toInt32 :: r) st | _ => False
  | .i2c => match sk with | .int x :: r => K (pc + 1) ls (.int (x.toUInt32 % 65536).toInt32 :: r) st | _ => False
  | .dup => match sk with | v :: r => bif Nat.beq v.category 1 then K (pc + 1) ls (v :: v :: r) st else False | _ => False
  | .dup2 => match sk with | v :: w :: r => bif Nat.beq v.category 1 && Nat.beq w.category 1 then K (pc + 1) ls (v :: w :: v :: w :: r) st else False | _ => False
  | .pop => match sk with | v :: r => bif Nat.beq v.category 1 then K (pc + 1) ls r st else False | _ => False
  | .goto _ => match e.2.2.1 with | [t] => K t ls sk st | _ => False
  | .ifCond c _ => match e.2.2.1, sk with | [t], .int x :: r => (mIf c x 0 → K t ls r st) ∧ (¬ mIf c x 0 → K (pc + 3) ls r st) | _, _ => False
  | .if_icmp c _ => match e.2.2.1, sk with | [t], .int y :: .int x :: r => (mIf c x y → K t ls r st) ∧ (¬ mIf c x y → K (pc + 3) ls r st) | _, _ => False
  | .ifnull _ => match e.2.2.1, sk with | [_], .ref p :: r => bif Nat.beq p 130 then False else K (pc + 3) ls r st | [t], .null :: r => K t ls r st | _, _ => False
  | .ifnonnull _ => match e.2.2.1, sk with | [t], .ref p :: r => bif Nat.beq p 130 then False else K t ls r st | [_], .null :: r => K (pc + 3) ls r st | _, _ => False
  | .tableswitch d lo hi offs => match sk with
    | .int x :: r => if x.toInt < lo ∨ hi < x.toInt then mJ pc d ∧ K (mTgt pc d) ls r st else match offs[(x.toInt - lo).toNat]? with | some o => mJ pc o ∧ K (mTgt pc o) ls r st | none => False
    | _ => False
  | .lookupswitch d ps => match sk with
    | .int x :: r => (ps.toList.zip (ps.toList.drop 1)).all (fun (a, next) => a.1 < next.1) = true ∧ mJ pc (Op.lookupswitch.offset ps.toList d x.toInt) ∧ K (mTgt pc (Op.lookupswitch.offset ps.toList d x.toInt)) ls r st
    | _ => False
  | .getfield _ => match sk, e.2.2.1 with
    | .ref p :: r, ci :: k :: _ => match lay p with
      | (4, c, fs) => bif Nat.beq c ci then (match fs[k]? with | some f => K (pc + 3) ls (mFld st p k f :: r) st | none => False) else False
      | (5, i, _) => ci = 50 ∧ match k with | 0 => K (pc + 3) ls (.int 0 :: r) st | 1 => K (pc + 3) ls (.ref (110 + i) :: r) st | _ => False
      | _ => False
    | _, _ => False
  | .putfield _ => match sk, e.2.2.1 with
    | v :: .ref p :: r, ci :: k :: _ => match lay p with
      | (4, c, fs) => bif Nat.beq c ci then (match fs[k]?, v with
        | some (0, _), .int x => K (pc + 3) ls r (mU st.1 p k x, st.2)
        | some (5, _), .int x => (x = 0 ∨ x = 1) ∧ K (pc + 3) ls r (mU st.1 p k x, st.2)
        | some (1, _), .long x => K (pc + 3) ls r (st.1, mUL st.2 p k x)
        | some (3, _), .ref q => bif Nat.blt q 86 then K (pc + 3) ls r (mU st.1 p k (nI q), st.2) else False
        | _, _ => False) else False
      | _ => False
    | _, _ => False
  | .getstatic _ => match e.2.2.1 with
    | 0 :: _ => K (pc + 3) ls (.int 1 :: sk) st
    | 1 :: _ => K (pc + 3) ls (.ref 130 :: sk) st
    | _ => False
  | .iaload => match sk with
    | .int i :: .ref a :: r => match lay a with
      | (0, n, _) => vp_in i n ∧ K (pc + 1) ls (.int (st.1 a i.toNatClampNeg) :: r) st
      | (7, _, _) => vp_in i (S.1 - 1) ∧ K (pc + 1) ls (.int (S.2 i.toNatClampNeg) :: r) st
      | _ => False
    | _ => False
  | .baload => match sk with
    | .int i :: .ref a :: r => match lay a with
      | (1, n, _) => vp_in i n ∧ K (pc + 1) ls (.int (st.1 a i.toNatClampNeg) :: r) st
      | (2, n, _) => vp_in i n ∧ K (pc + 1) ls (.int (st.1 a i.toNatClampNeg) :: r) st
      | (6, j, _) => vp_in i (lenK.getD j 0) ∧ K (pc + 1) ls (.int ((bytK.getD j []).getD i.toNatClampNeg 0) :: r) st
      | _ => False
    | _ => False
  | .aaload => match sk with
    | .int i :: .ref a :: r => match lay a with
      | (3, n, fs) => vp_in i n ∧ match fs[i.toNatClampNeg]? with | some f => K (pc + 1) ls (.ref f.2 :: r) st | none => False
      | _ => False
    | _ => False
  | .iastore => match sk with
    | .int x :: .int i :: .ref a :: r => match lay a with
      | (0, n, _) => vp_in i n ∧ K (pc + 1) ls r (mU st.1 a i.toNatClampNeg x, st.2)
      | _ => False
    | _ => False
  | .bastore => match sk with
    | .int x :: .int i :: .ref a :: r => match lay a with
      | (1, n, _) => vp_in i n ∧ K (pc + 1) ls r (mU st.1 a i.toNatClampNeg (vp_nar .byte x), st.2)
      | (2, n, _) => vp_in i n ∧ K (pc + 1) ls r (mU st.1 a i.toNatClampNeg (vp_nar .boolean x), st.2)
      | _ => False
    | _ => False
  | .arraylength => match sk with
    | .ref a :: r => match lay a with
      | (0, n, _) => K (pc + 1) ls (.int (Int32.ofNat n) :: r) st
      | (1, n, _) => K (pc + 1) ls (.int (Int32.ofNat n) :: r) st
      | (2, n, _) => K (pc + 1) ls (.int (Int32.ofNat n) :: r) st
      | (3, n, _) => K (pc + 1) ls (.int (Int32.ofNat n) :: r) st
      | (6, j, _) => K (pc + 1) ls (.int (Int32.ofNat (lenK.getD j 0)) :: r) st
      | (7, _, _) => 0 < S.1 ∧ K (pc + 1) ls (.int (Int32.ofNat (S.1 - 1)) :: r) st
      | _ => False
    | _ => False
  | .invokestatic _ => match e.2.2.1 with
    | z :: n :: _ => n ≤ sk.length ∧ mCat (sk.drop n) ≤ 8 ∧ ∃ (v : Option Value) (st1 : mSt), C z (sk.take n).reverse st v st1 ∧ K (pc + 3) ls (v.toList ++ sk.drop n) st1
    | _ => False
  | .invokevirtual _ => match e.2.2.1 with
    | z :: n :: c :: _ => n + 1 ≤ sk.length ∧ mCat (sk.drop (n + 1)) ≤ 8 ∧ mRecv c (sk.getD n .null) ∧ ∃ (v : Option Value) (st1 : mSt), C z (sk.take (n + 1)).reverse st v st1 ∧ K (pc + 3) ls (v.toList ++ sk.drop (n + 1)) st1
    | _ => False
  | .ireturn => match sk with | [.int v] => mRet rt (some (.int v)) ∧ Q (some (.int v)) st | _ => False
  | .lreturn => match sk with | [.long v] => mRet rt (some (.long v)) ∧ Q (some (.long v)) st | _ => False
  | .areturn => match sk with | [.ref a] => mRet rt (some (.ref a)) ∧ Q (some (.ref a)) st | [.null] => mRet rt (some .null) ∧ Q (some .null) st | _ => False
  | .return_ => match sk with | [] => mRet rt none ∧ Q none st | _ => False
  | _ => False
/-- a run of at most n steps that comes to its end with Q -/
def mOk (C : Nat → List Value → mSt → Option Value → mSt → Prop) (S : Nat × (Nat → Int32)) (P : Nat → Option mE) (rt : Option FieldType) (Q : Option Value → mSt → Prop) : Nat → Nat → mLs → List Value → mSt → Prop
  | 0 => fun _ _ _ _ => False
  | n + 1 => fun pc ls sk st => match P pc with
    | none => False
    | some e => mStep C S rt Q (mOk C S P rt Q n) e pc ls sk st
def mW (C : Nat → List Value → mSt → Option Value → mSt → Prop) (S : Nat × (Nat → Int32)) (P : Nat → Option mE) (rt : Option FieldType) (Q : Option Value → mSt → Prop) (pc : Nat) (ls : mLs) (sk : List Value) (st : mSt) : Prop := ∃ n, mOk C S P rt Q n pc ls sk st
/-- the locals at a method's entry -/
def mArgs : List Value → mLs
  | [] => []
  | v :: l => if v.category = 2 then some v :: none :: mArgs l else some v :: mArgs l
def mEntry (args : List Value) (n : Nat) : mLs := mArgs args ++ List.replicate (n - (mArgs args).length) none
/-- code by its places -/
def mAtL : List (Nat × mE) → Nat → Option mE
  | [], _ => none
  | (k, e) :: l, pc => bif Nat.beq k pc then some e else mAtL l pc
/-- a call, at most d deep: the method z of the table answers v and leaves st1 -/
def mMC (T : List (MethodName × ByteArray × Nat × Option FieldType × Nat × Nat × Nat × List (Nat × mE))) : Nat → Nat → List Value → mSt → Option Value → mSt → Prop
  | 0 => fun _ _ _ _ _ => False
  | d + 1 => fun z args st v st1 => ∃ q, T[z]? = some q ∧ (mArgs args).length ≤ q.2.2.1 ∧ mW (mMC T d) (0, fun _ => 0) (mAtL q.2.2.2.2.2.2.2) q.2.2.2.1 (fun r s => r = v ∧ s = st1) 0 (mEntry args q.2.2.1) [] st
