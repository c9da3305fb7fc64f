/-! what the tables say of the code rows: a program's check, and that it holds -/
def mLen : Instr → Nat
  | .bipush _ => 2
  | .ldc _ => 2
  | .iload _ => 2
  | .lload _ => 2
  | .aload _ => 2
  | .istore _ => 2
  | .lstore _ => 2
  | .astore _ => 2
  | .sipush _ => 3
  | .ldc_w _ => 3
  | .ldc2_w _ => 3
  | .iinc _ _ => 3
  | .goto _ => 3
  | .ifCond _ _ => 3
  | .if_icmp _ _ => 3
  | .ifnull _ => 3
  | .ifnonnull _ => 3
  | .getfield _ => 3
  | .putfield _ => 3
  | .getstatic _ => 3
  | .invokestatic _ => 3
  | .invokevirtual _ => 3
  | .invokespecial _ => 3
  | .new _ => 3
  | _ => 1
/-- a word of the tables, by its place -/
def mWd (i : Nat) (w : Jvm.Cond) : Bool := decide (lw_tbl[i]? = some w)
/-- the words of a call: the callee is the z-th method of the table 'T' -/
def mChkC (T : List mM) (own : String) (idx z np : Nat) (f : MethodName → Bool) : Bool := match T[z]? with
  | some q => Nat.beq q.2.2.2.2.1 np && f q.1
  | none => false
def mChkL (T : List mM) (own : String) (e : mE) : Bool := match e.1, e.2.2.1 with
  | .getfield idx, [ci, k, w] => if ci = 50 then mWd w (.fieldLink own idx "java/lang/String" (if k = 0 then "coder" else "value") (if k = 0 then "B" else "[B"))
      else match vwCl[ci]? with | some q => decide (k < q.2.2) && mWd w (.fieldLink own idx (q.2.1 k).1 (q.2.1 k).2.1 (q.2.1 k).2.2.1) | none => false
  | .putfield idx, [ci, k, w] => match vwCl[ci]? with | some q => decide (k < q.2.2) && mWd w (.fieldLink own idx (q.2.1 k).1 (q.2.1 k).2.1 (q.2.1 k).2.2.1) | none => false
  | .getstatic idx, [0, w] => mWd w (.fieldLink own idx "java/lang/String" "COMPACT_STRINGS" "Z")
  | .getstatic idx, [1, w] => mWd w (.fieldLink own idx "jdk/internal/util/Preconditions" "SIOOBE_FORMATTER" "Ljava/util/function/BiFunction;")
  | .ldc idx, [0, w] => mWd w (.constant own idx (Int32.ofInt e.2.2.2))
  | .ldc idx, [1, i] => decide (i < 5) && decide (own = "SpadeRings$Script") && Nat.beq ([122, 128, 130, 132, 134].getD i 0) idx
  | .ldc_w idx, [w] => mWd w (.constant own idx (Int32.ofInt e.2.2.2))
  | .ldc2_w idx, [w] => mWd w (.constantLong own idx (Int64.ofInt e.2.2.2))
  | .invokestatic idx, [z, n, 0, w, ws] => mChkC T own idx z n (fun y => mWd w (.methodLink own idx y) && mWd ws (.static y))
  | .invokestatic idx, [z, n, 1, w, ws] => mChkC T own idx z n (fun y => mWd w (.methodLinkNest own idx y "SpadeRings") && mWd ws (.static y))
  | .invokevirtual idx, [z, n, ci, w, wi, ws] => mChkC T own idx z n (fun y => mWd w (.methodLink own idx y) && mWd wi (.instanceMethod y) && mWd ws (.selects y.cls y y) && (if ci = 50 then decide (y.cls = "java/lang/String") else match vwCl[ci]? with | some q => decide (y.cls = q.1) | none => false))
  | .getfield _, _ => e.2.2.1.isEmpty
  | .putfield _, _ => e.2.2.1.isEmpty
  | .getstatic _, _ => e.2.2.1.isEmpty
  | .ldc _, _ => e.2.2.1.isEmpty
  | .ldc_w _, _ => e.2.2.1.isEmpty
  | .ldc2_w _, _ => e.2.2.1.isEmpty
  | .invokestatic _, _ => e.2.2.1.isEmpty
  | .invokevirtual _, _ => e.2.2.1.isEmpty
  | _, _ => true
def mJmp (pc : Nat) (o : Int) (l : List Nat) : Bool := match l with
  | [t] => decide ((pc : Int) + o = (t : Int))
  | _ => false
def mChkI (cc : ByteArray) (pc : Nat) (e : mE) : Bool := decide (decode cc pc = .ok (e.1, e.2.1)) && (match e.1 with
  | .tableswitch _ _ _ _ => true
  | .lookupswitch _ _ => true
  | i => Nat.beq e.2.1 (mLen i)) && (match e.1 with
  | .goto o => mJmp pc o e.2.2.1
  | .ifCond _ o => mJmp pc o e.2.2.1
  | .if_icmp _ o => mJmp pc o e.2.2.1
  | .ifnull o => mJmp pc o e.2.2.1
  | .ifnonnull o => mJmp pc o e.2.2.1
  | _ => true)
def mChk (T : List mM) (own : String) (cc : ByteArray) (P : List (Nat × mE)) : Bool := P.all (fun q => mChkI cc q.1 q.2 && mChkL T own q.2)
def mChkM (q : mM) : Bool := match q with
  | (y, _, maxL, _, np, _, wi, _) => mWd wi (.initialized y.cls) && decide ((parseMethodDescriptor y.desc).map (fun d => d.parameters.length) = some np) && plainFor y && decide (y.cls ≠ "java/lang/invoke/MethodHandle") && decide (y.cls ≠ "java/lang/invoke/VarHandle") && Nat.ble maxL 40
theorem mT_ok0 : mT_0.all mChkM = true := by decide +kernel
theorem mT_ok1 : mT_1.all mChkM = true := by decide +kernel
theorem mT_ok2 : mT_2.all mChkM = true := by decide +kernel
theorem mT_ok3 : mT_3.all mChkM = true := by decide +kernel
theorem mT_ok : ∀ q ∈ mT, mChkM q = true := by
  intro q hq
  have h : q ∈ mT_0 ++ (mT_1 ++ (mT_2 ++ mT_3)) := hq
  simp only [List.mem_append] at h
  rcases h with h | h | h | h
  · exact List.all_eq_true.mp mT_ok0 q h
  · exact List.all_eq_true.mp mT_ok1 q h
  · exact List.all_eq_true.mp mT_ok2 q h
  · exact List.all_eq_true.mp mT_ok3 q h
/-- a word that stays true as the machine links -/
def mGoodW (w : Jvm.Cond) : Bool := goodWord w || (match w with | .methodLinkNest _ _ _ _ => true | _ => false)
theorem vwCl_in : ∀ (ci : Nat) (q : vw_C), vwCl[ci]? = some q → ∀ w ∈ u_ws q.1 q.2.1 q.2.2, w ∈ lw_tbl := by
  intro ci q h
  have h0 : ∀ q ∈ vwCl, ∀ w ∈ u_ws q.1 q.2.1 q.2.2, w ∈ lw_tbl := by decide +kernel
  exact h0 q (List.mem_of_getElem? h)
