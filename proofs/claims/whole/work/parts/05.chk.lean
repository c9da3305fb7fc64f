/-! what the tables say of the code rows: a program's check, and that it holds -/
def mLen : Instr → Nat
  | .bipush _ => 2
  | .ldc _ => 2
  | .iload _ => 2
  | .lload _ => 2
  | .aload _ => 2
  | .istore _ => 2
  | .lstore _ => 2
  | .astore _ => 2
  | .sipush _ => 3
  | .ldc_w _ => 3
  | .ldc2_w _ => 3
  | .iinc _ _ => 3
  | .goto _ => 3
  | .ifCond _ _ => 3
  | .if_icmp _ _ => 3
  | .ifnull _ => 3
  | .ifnonnull _ => 3
  | .getfield _ => 3
  | .putfield _ => 3
  | .getstatic _ => 3
  | .invokestatic _ => 3
  | .invokevirtual _ => 3
  | .invokespecial _ => 3
  | .new _ => 3
  | _ => 1
/-- a word of the tables, by its place -/
def mWd (i : Nat) (w : Jvm.Cond) : Bool := decide (lw_tbl[i]? = some w)
/-- the words of a call: the callee is the z-th method of the table 'T' -/
def mChkC (T : List mM) (own : String) (idx z np : Nat) (f : MethodName → Bool) : Bool := match T[z]? with
  | some q => Nat.beq q.2.2.2.2.1 np && f q.1
  | none => false
def mChkL (T : List mM) (own : String) (e : mE) : Bool := match e.1, e.2.2.1 with
  | .getfield idx, [ci, k, w] => if ci = 50 then mWd w (.fieldLink own idx "java/lang/String" (if k = 0 then "coder" else "value") (if k = 0 then "B" else "[B"))
      else match vwCl[ci]? with | some q => decide (k < q.2.2) && mWd w (.fieldLink own idx (q.2.1 k).1 (q.2.1 k).2.1 (q.2.1 k).2.2.1) | none => false
  | .putfield idx, [ci, k, w] => match vwCl[ci]? with | some q => decide (k < q.2.2) && mWd w (.fieldLink own idx (q.2.1 k).1 (q.2.1 k).2.1 (q.2.1 k).2.2.1) | none => false
  | .getstatic idx, [0, w] => mWd w (.fieldLink own idx "java/lang/String" "COMPACT_STRINGS" "Z")
  | .getstatic idx, [1, w] => mWd w (.fieldLink own idx "jdk/internal/util/Preconditions" "SIOOBE_FORMATTER" "Ljava/util/function/BiFunction;")
  | .ldc idx, [0, w] => mWd w (.constant own idx (Int32.ofInt e.2.2.2))
  | .ldc idx, [1, i] => decide (i < 5) && decide (own = "SpadeRings$Script") && Nat.beq ([122, 128, 130, 132, 134].getD i 0) idx
  | .ldc_w idx, [w] => mWd w (.constant own idx (Int32.ofInt e.2.2.2))
  | .ldc2_w idx, [w] => mWd w (.constantLong own idx (Int64.ofInt e.2.2.2))
  | .invokestatic idx, [z, n, 0, w, ws] => mChkC T own idx z n (fun y => mWd w (.methodLink own idx y) && mWd ws (.static y))
  | .invokestatic idx, [z, n, 1, w, ws] => mChkC T own idx z n (fun y => mWd w (.methodLinkNest own idx y "SpadeRings") && mWd ws (.static y))
  | .invokevirtual idx, [z, n, ci, w, wi, ws] => mChkC T own idx z n (fun y => mWd w (.methodLink own idx y) && mWd wi (.instanceMethod y) && mWd ws (.selects y.cls y y) && (if ci = 50 then decide (y.cls = "java/lang/String") else match vwCl[ci]? with | some q => decide (y.cls = q.1) | none => false))
  | .getfield _, _ => e.2.2.1.isEmpty
  | .putfield _, _ => e.2.2.1.isEmpty
  | .getstatic _, _ => e.2.2.1.isEmpty
  | .ldc _, _ => e.2.2.1.isEmpty
  | .ldc_w _, _ => e.2.2.1.isEmpty
  | .ldc2_w _, _ => e.2.2.1.isEmpty
  | .invokestatic _, _ => e.2.2.1.isEmpty
  | .invokevirtual _, _ => e.2.2.1.isEmpty
  | _, _ => true
def mChkI (cc : ByteArray) (pc : Nat) (e : mE) : Bool := decide (decode cc pc = .ok (e.1, e.2.1)) && (match e.1 with
  | .tableswitch _ _ _ _ => true
  | .lookupswitch _ _ => true
  | i => Nat.beq e.2.1 (mLen i))
def mChk (T : List mM) (own : String) (cc : ByteArray) (P : List (Nat × mE)) : Bool := P.all (fun q => mChkI cc q.1 q.2 && mChkL T own q.2)
def mChkM (q : mM) : Bool := match q with
  | (y, _, maxL, _, np, _, wi, _) => mWd wi (.initialized y.cls) && decide ((parseMethodDescriptor y.desc).map (fun d => d.parameters.length) = some np) && plainFor y && decide (y.cls ≠ "java/lang/invoke/MethodHandle") && decide (y.cls ≠ "java/lang/invoke/VarHandle") && Nat.ble maxL 40
theorem mT_ok0 : mT_0.all mChkM = true := by decide +kernel
theorem mT_ok1 : mT_1.all mChkM = true := by decide +kernel
theorem mT_ok2 : mT_2.all mChkM = true := by decide +kernel
theorem mT_ok3 : mT_3.all mChkM = true := by decide +kernel
theorem mT_ok : ∀ q ∈ mT, mChkM q = true := by
  intro q hq
  have h : q ∈ mT_0 ++ (mT_1 ++ (mT_2 ++ mT_3)) := hq
  simp only [List.mem_append] at h
  rcases h with h | h | h | h
  · exact List.all_eq_true.mp mT_ok0 q h
  · exact List.all_eq_true.mp mT_ok1 q h
  · exact List.all_eq_true.mp mT_ok2 q h
  · exact List.all_eq_true.mp mT_ok3 q h
theorem lw_m1 {w : Jvm.Cond} (h : w ∈ tables_1_1) : w ∈ lw_tbl := by
  have h1 : w ∈ tables_1 := by
    unfold tables_1
    simp only [List.mem_append]
    simp only [h, true_or, or_true]
  exact List.mem_append_right _ h1
theorem lw_m2 {w : Jvm.Cond} (h : w ∈ tables_1_2) : w ∈ lw_tbl := by
  have h1 : w ∈ tables_1 := by
    unfold tables_1
    simp only [List.mem_append]
    simp only [h, true_or, or_true]
  exact List.mem_append_right _ h1
theorem lw_m3 {w : Jvm.Cond} (h : w ∈ tables_1_3) : w ∈ lw_tbl := by
  have h1 : w ∈ tables_1 := by
    unfold tables_1
    simp only [List.mem_append]
    simp only [h, true_or, or_true]
  exact List.mem_append_right _ h1
theorem lw_m4 {w : Jvm.Cond} (h : w ∈ tables_1_4) : w ∈ lw_tbl := by
  have h1 : w ∈ tables_1 := by
    unfold tables_1
    simp only [List.mem_append]
    simp only [h, true_or, or_true]
  exact List.mem_append_right _ h1
theorem lw_m5 {w : Jvm.Cond} (h : w ∈ tables_1_5) : w ∈ lw_tbl := by
  have h1 : w ∈ tables_1 := by
    unfold tables_1
    simp only [List.mem_append]
    simp only [h, true_or, or_true]
  exact List.mem_append_right _ h1
theorem lw_m6 {w : Jvm.Cond} (h : w ∈ tables_1_6) : w ∈ lw_tbl := by
  have h1 : w ∈ tables_1 := by
    unfold tables_1
    simp only [List.mem_append]
    simp only [h, true_or, or_true]
  exact List.mem_append_right _ h1
theorem cw_J6_bitCount_0f7a4 : Cond.code yJ6_bitCount_0f7a4 cJ6_bitCount_0f7a4 1 (some .int) ∈ lw_tbl := lw_m3 (List.mem_of_getElem? (i := 181) rfl)
theorem cw_J13_bitCount_95d88 : Cond.code yJ13_bitCount_95d88 cJ13_bitCount_95d88 2 (some .int) ∈ lw_tbl := lw_m4 (List.mem_of_getElem? (i := 143) rfl)
theorem cw_J9_floorMod_7cf53 : Cond.code yJ9_floorMod_7cf53 cJ9_floorMod_7cf53 3 (some .int) ∈ lw_tbl := lw_m4 (List.mem_of_getElem? (i := 76) rfl)
theorem cw_J9_max_7cf53 : Cond.code yJ9_max_7cf53 cJ9_max_7cf53 2 (some .int) ∈ lw_tbl := lw_m3 (List.mem_of_getElem? (i := 123) rfl)
theorem cw_J9_min_7cf53 : Cond.code yJ9_min_7cf53 cJ9_min_7cf53 2 (some .int) ∈ lw_tbl := lw_m3 (List.mem_of_getElem? (i := 135) rfl)
theorem cw_J0_length_8abf5 : Cond.code yJ0_length_8abf5 cJ0_length_8abf5 1 (some .int) ∈ lw_tbl := lw_m2 (List.mem_of_getElem? (i := 182) rfl)
theorem cw_J0_coder_7d493 : Cond.code yJ0_coder_7d493 cJ0_coder_7d493 1 (some .byte) ∈ lw_tbl := lw_m2 (List.mem_of_getElem? (i := 186) rfl)
theorem cw_J0_charAt_5068e : Cond.code yJ0_charAt_5068e cJ0_charAt_5068e 2 (some .char) ∈ lw_tbl := lw_m2 (List.mem_of_getElem? (i := 192) rfl)
theorem cw_J0_isLatin1_aae02 : Cond.code yJ0_isLatin1_aae02 cJ0_isLatin1_aae02 1 (some .boolean) ∈ lw_tbl := lw_m2 (List.mem_of_getElem? (i := 196) rfl)
theorem cw_J0_checkIndex_df160 : Cond.code yJ0_checkIndex_df160 cJ0_checkIndex_df160 2 none ∈ lw_tbl := lw_m2 (List.mem_of_getElem? (i := 202) rfl)
theorem cw_J1_charAt_3b067 : Cond.code yJ1_charAt_3b067 cJ1_charAt_3b067 2 (some .char) ∈ lw_tbl := lw_m2 (List.mem_of_getElem? (i := 199) rfl)
theorem cw_J3_checkIndex_8e157 : Cond.code yJ3_checkIndex_8e157 cJ3_checkIndex_8e157 3 (some .int) ∈ lw_tbl := lw_m2 (List.mem_of_getElem? (i := 207) rfl)
theorem cw_X0_work : Cond.code yX0_work cX0_work 5 none ∈ lw_tbl := lw_m3 (List.mem_of_getElem? (i := 163) rfl)
theorem cw_X0_look : Cond.code yX0_look cX0_look 8 (some .long) ∈ lw_tbl := lw_m3 (List.mem_of_getElem? (i := 167) rfl)
theorem cw_X0_findRounds : Cond.code yX0_findRounds cX0_findRounds 3 (some .int) ∈ lw_tbl := lw_m3 (List.mem_of_getElem? (i := 174) rfl)
theorem cw_X0_fits : Cond.code yX0_fits cX0_fits 6 (some .boolean) ∈ lw_tbl := lw_m3 (List.mem_of_getElem? (i := 178) rfl)
theorem cw_X0_bearable : Cond.code yX0_bearable cX0_bearable 7 (some .int) ∈ lw_tbl := lw_m3 (List.mem_of_getElem? (i := 188) rfl)
theorem cw_X0_place : Cond.code yX0_place cX0_place 4 (some .boolean) ∈ lw_tbl := lw_m3 (List.mem_of_getElem? (i := 192) rfl)
theorem cw_X0_placeWith : Cond.code yX0_placeWith cX0_placeWith 5 (some .boolean) ∈ lw_tbl := lw_m3 (List.mem_of_getElem? (i := 197) rfl)
theorem cw_X1_empty : Cond.code yX1_empty cX1_empty 1 none ∈ lw_tbl := lw_m2 (List.mem_of_getElem? (i := 234) rfl)
theorem cw_X1_hasDigger : Cond.code yX1_hasDigger cX1_hasDigger 2 (some .boolean) ∈ lw_tbl := lw_m3 (List.mem_of_getElem? (i := 63) rfl)
theorem cw_X1_hasSpade : Cond.code yX1_hasSpade cX1_hasSpade 2 (some .boolean) ∈ lw_tbl := lw_m3 (List.mem_of_getElem? (i := 72) rfl)
theorem cw_X1_hasYard : Cond.code yX1_hasYard cX1_hasYard 2 (some .boolean) ∈ lw_tbl := lw_m3 (List.mem_of_getElem? (i := 84) rfl)
theorem cw_X1_addDigger : Cond.code yX1_addDigger cX1_addDigger 4 none ∈ lw_tbl := lw_m3 (List.mem_of_getElem? (i := 23) rfl)
theorem cw_X1_addSpade : Cond.code yX1_addSpade cX1_addSpade 3 none ∈ lw_tbl := lw_m3 (List.mem_of_getElem? (i := 35) rfl)
theorem cw_X1_addYard : Cond.code yX1_addYard cX1_addYard 3 none ∈ lw_tbl := lw_m3 (List.mem_of_getElem? (i := 43) rfl)
theorem cw_X1_suits : Cond.code yX1_suits cX1_suits 4 (some .boolean) ∈ lw_tbl := lw_m3 (List.mem_of_getElem? (i := 96) rfl)
theorem cw_X1_product : Cond.code yX1_product cX1_product 3 (some .int) ∈ lw_tbl := lw_m3 (List.mem_of_getElem? (i := 117) rfl)
theorem cw_X1_clodsOf : Cond.code yX1_clodsOf cX1_clodsOf 2 (some .int) ∈ lw_tbl := lw_m4 (List.mem_of_getElem? (i := 51) rfl)
theorem cw_X1_allClods : Cond.code yX1_allClods cX1_allClods 3 (some .int) ∈ lw_tbl := lw_m4 (List.mem_of_getElem? (i := 47) rfl)
theorem cw_X1_yardOfClod : Cond.code yX1_yardOfClod cX1_yardOfClod 4 (some .int) ∈ lw_tbl := lw_m4 (List.mem_of_getElem? (i := 68) rfl)
theorem cw_X2_greatest : Cond.code yX2_greatest cX2_greatest 7 (some .int) ∈ lw_tbl := lw_m3 (List.mem_of_getElem? (i := 211) rfl)
theorem cw_X2_look : Cond.code yX2_look cX2_look 6 none ∈ lw_tbl := lw_m3 (List.mem_of_getElem? (i := 215) rfl)
theorem cw_X2_findChains : Cond.code yX2_findChains cX2_findChains 5 none ∈ lw_tbl := lw_m3 (List.mem_of_getElem? (i := 222) rfl)
theorem cw_X2_lengthenBy : Cond.code yX2_lengthenBy cX2_lengthenBy 5 (some .boolean) ∈ lw_tbl := lw_m3 (List.mem_of_getElem? (i := 230) rfl)
theorem cw_X2_lengthenToSpade : Cond.code yX2_lengthenToSpade cX2_lengthenToSpade 5 (some .boolean) ∈ lw_tbl := lw_m4 (List.mem_of_getElem? (i := 0) rfl)
theorem cw_X2_lengthenToDigger : Cond.code yX2_lengthenToDigger cX2_lengthenToDigger 5 (some .boolean) ∈ lw_tbl := lw_m3 (List.mem_of_getElem? (i := 236) rfl)
theorem cw_X2_bestLastSpade : Cond.code yX2_bestLastSpade cX2_bestLastSpade 4 (some .int) ∈ lw_tbl := lw_m4 (List.mem_of_getElem? (i := 4) rfl)
theorem cw_X2_follow : Cond.code yX2_follow cX2_follow 7 none ∈ lw_tbl := lw_m4 (List.mem_of_getElem? (i := 8) rfl)
theorem cw_X3_add : Cond.code yX3_add cX3_add 4 (some .boolean) ∈ lw_tbl := lw_m4 (List.mem_of_getElem? (i := 85) rfl)
theorem cw_X3_leastClods : Cond.code yX3_leastClods cX3_leastClods 4 (some .int) ∈ lw_tbl := lw_m4 (List.mem_of_getElem? (i := 94) rfl)
theorem cw_X3_neededWithin : Cond.code yX3_neededWithin cX3_neededWithin 5 (some .int) ∈ lw_tbl := lw_m4 (List.mem_of_getElem? (i := 99) rfl)
theorem cw_X4_hold : Cond.code yX4_hold cX4_hold 11 none ∈ lw_tbl := lw_m4 (List.mem_of_getElem? (i := 43) rfl)
theorem cw_X4_firstBeatWith : Cond.code yX4_firstBeatWith cX4_firstBeatWith 6 (some .int) ∈ lw_tbl := lw_m4 (List.mem_of_getElem? (i := 55) rfl)
theorem cw_X4_dugBy : Cond.code yX4_dugBy cX4_dugBy 2 (some .int) ∈ lw_tbl := lw_m4 (List.mem_of_getElem? (i := 60) rfl)
theorem cw_X5_reset : Cond.code yX5_reset cX5_reset 1 none ∈ lw_tbl := lw_m3 (List.mem_of_getElem? (i := 47) rfl)
theorem cw_X5_copyFrom : Cond.code yX5_copyFrom cX5_copyFrom 2 none ∈ lw_tbl := lw_m4 (List.mem_of_getElem? (i := 194) rfl)
theorem cw_X5_allows : Cond.code yX5_allows cX5_allows 4 (some .boolean) ∈ lw_tbl := lw_m3 (List.mem_of_getElem? (i := 92) rfl)
theorem cw_X5_canThrow : Cond.code yX5_canThrow cX5_canThrow 4 (some .boolean) ∈ lw_tbl := lw_m3 (List.mem_of_getElem? (i := 107) rfl)
theorem cw_X5_earthOf : Cond.code yX5_earthOf cX5_earthOf 5 (some .int) ∈ lw_tbl := lw_m3 (List.mem_of_getElem? (i := 112) rfl)
theorem cw_X5_noteThrow : Cond.code yX5_noteThrow cX5_noteThrow 3 none ∈ lw_tbl := lw_m3 (List.mem_of_getElem? (i := 127) rfl)
theorem cw_X5_dig : Cond.code yX5_dig cX5_dig 5 none ∈ lw_tbl := lw_m3 (List.mem_of_getElem? (i := 132) rfl)
theorem cw_X5_endRound : Cond.code yX5_endRound cX5_endRound 4 (some .int) ∈ lw_tbl := lw_m3 (List.mem_of_getElem? (i := 143) rfl)
theorem cw_X6_part : Cond.code yX6_part cX6_part 7 none ∈ lw_tbl := lw_m4 (List.mem_of_getElem? (i := 16) rfl)
theorem cw_X6_partRest : Cond.code yX6_partRest cX6_partRest 5 none ∈ lw_tbl := lw_m4 (List.mem_of_getElem? (i := 31) rfl)
theorem cw_X6_offer : Cond.code yX6_offer cX6_offer 5 none ∈ lw_tbl := lw_m4 (List.mem_of_getElem? (i := 27) rfl)
theorem cw_X6_weigh : Cond.code yX6_weigh cX6_weigh 6 (some .int) ∈ lw_tbl := lw_m4 (List.mem_of_getElem? (i := 19) rfl)
theorem cw_X6_ringOf : Cond.code yX6_ringOf cX6_ringOf 2 (some .int) ∈ lw_tbl := lw_m4 (List.mem_of_getElem? (i := 35) rfl)
theorem cw_X7_hasRoomFor : Cond.code yX7_hasRoomFor cX7_hasRoomFor 2 (some .boolean) ∈ lw_tbl := lw_m2 (List.mem_of_getElem? (i := 117) rfl)
theorem cw_X7_append : Cond.code yX7_append cX7_append 5 none ∈ lw_tbl := lw_m2 (List.mem_of_getElem? (i := 121) rfl)
theorem cw_X7_wipe : Cond.code yX7_wipe cX7_wipe 2 (some .int) ∈ lw_tbl := lw_m2 (List.mem_of_getElem? (i := 132) rfl)
theorem cw_X7_readInto : Cond.code yX7_readInto cX7_readInto 3 (some .int) ∈ lw_tbl := lw_m2 (List.mem_of_getElem? (i := 140) rfl)
theorem cw_X7_readItem : Cond.code yX7_readItem cX7_readItem 2 none ∈ lw_tbl := lw_m2 (List.mem_of_getElem? (i := 238) rfl)
theorem cw_X7_readDigger : Cond.code yX7_readDigger cX7_readDigger 5 none ∈ lw_tbl := lw_m3 (List.mem_of_getElem? (i := 2) rfl)
theorem cw_X7_readSpade : Cond.code yX7_readSpade cX7_readSpade 4 none ∈ lw_tbl := lw_m3 (List.mem_of_getElem? (i := 31) rfl)
theorem cw_X7_readYard : Cond.code yX7_readYard cX7_readYard 4 none ∈ lw_tbl := lw_m3 (List.mem_of_getElem? (i := 39) rfl)
theorem cw_X7_takeWord : Cond.code yX7_takeWord cX7_takeWord 2 none ∈ lw_tbl := lw_m3 (List.mem_of_getElem? (i := 6) rfl)
theorem cw_X7_takeNumber : Cond.code yX7_takeNumber cX7_takeNumber 3 (some .int) ∈ lw_tbl := lw_m3 (List.mem_of_getElem? (i := 10) rfl)
theorem cw_X7_takeSemicolon : Cond.code yX7_takeSemicolon cX7_takeSemicolon 1 none ∈ lw_tbl := lw_m3 (List.mem_of_getElem? (i := 19) rfl)
theorem cw_X7_takes : Cond.code yX7_takes cX7_takes 2 (some .boolean) ∈ lw_tbl := lw_m3 (List.mem_of_getElem? (i := 15) rfl)
theorem cw_X7_cutIntoTokens : Cond.code yX7_cutIntoTokens cX7_cutIntoTokens 4 none ∈ lw_tbl := lw_m2 (List.mem_of_getElem? (i := 144) rfl)
theorem cw_X7_behindBlanks : Cond.code yX7_behindBlanks cX7_behindBlanks 3 (some .int) ∈ lw_tbl := lw_m2 (List.mem_of_getElem? (i := 148) rfl)
theorem cw_X7_endOfToken : Cond.code yX7_endOfToken cX7_endOfToken 3 (some .int) ∈ lw_tbl := lw_m2 (List.mem_of_getElem? (i := 155) rfl)
theorem cw_X7_tokenOf : Cond.code yX7_tokenOf cX7_tokenOf 4 (some .int) ∈ lw_tbl := lw_m2 (List.mem_of_getElem? (i := 165) rfl)
theorem cw_X7_numberOf : Cond.code yX7_numberOf cX7_numberOf 5 (some .int) ∈ lw_tbl := lw_m2 (List.mem_of_getElem? (i := 169) rfl)
theorem cw_X7_wordOf : Cond.code yX7_wordOf cX7_wordOf 3 (some .int) ∈ lw_tbl := lw_m2 (List.mem_of_getElem? (i := 173) rfl)
theorem cw_X7_isWord : Cond.code yX7_isWord cX7_isWord 5 (some .boolean) ∈ lw_tbl := lw_m2 (List.mem_of_getElem? (i := 178) rfl)
theorem cw_X7_isLetter : Cond.code yX7_isLetter cX7_isLetter 1 (some .boolean) ∈ lw_tbl := lw_m2 (List.mem_of_getElem? (i := 158) rfl)
theorem cw_X7_isDigit : Cond.code yX7_isDigit cX7_isDigit 1 (some .boolean) ∈ lw_tbl := lw_m2 (List.mem_of_getElem? (i := 161) rfl)
theorem cw_X8_forget : Cond.code yX8_forget cX8_forget 1 none ∈ lw_tbl := lw_m3 (List.mem_of_getElem? (i := 54) rfl)
theorem cw_X8_add : Cond.code yX8_add cX8_add 4 (some .boolean) ∈ lw_tbl := lw_m4 (List.mem_of_getElem? (i := 118) rfl)
theorem cw_X8_pairOf : Cond.code yX8_pairOf cX8_pairOf 2 (some .long) ∈ lw_tbl := lw_m4 (List.mem_of_getElem? (i := 131) rfl)
theorem cw_X8_whoThrewTwice : Cond.code yX8_whoThrewTwice cX8_whoThrewTwice 5 (some .int) ∈ lw_tbl := lw_m4 (List.mem_of_getElem? (i := 127) rfl)
theorem cw_X8_falseRounds : Cond.code yX8_falseRounds cX8_falseRounds 3 (some .int) ∈ lw_tbl := lw_m4 (List.mem_of_getElem? (i := 136) rfl)
theorem cw_X8_isFalse : Cond.code yX8_isFalse cX8_isFalse 7 (some .boolean) ∈ lw_tbl := lw_m4 (List.mem_of_getElem? (i := 140) rfl)
theorem cw_X9_type : Cond.code yX9_type cX9_type 4 (some .int) ∈ lw_tbl := lw_m2 (List.mem_of_getElem? (i := 110) rfl)
theorem cw_X9_clear : Cond.code yX9_clear cX9_clear 1 (some .int) ∈ lw_tbl := lw_m2 (List.mem_of_getElem? (i := 128) rfl)
theorem cw_X9_gang : Cond.code yX9_gang cX9_gang 3 (some .int) ∈ lw_tbl := lw_m2 (List.mem_of_getElem? (i := 136) rfl)
theorem cw_X9_digger : Cond.code yX9_digger cX9_digger 3 (some .int) ∈ lw_tbl := lw_m3 (List.mem_of_getElem? (i := 59) rfl)
theorem cw_X9_spade : Cond.code yX9_spade cX9_spade 3 (some .int) ∈ lw_tbl := lw_m3 (List.mem_of_getElem? (i := 68) rfl)
theorem cw_X9_yard : Cond.code yX9_yard cX9_yard 3 (some .int) ∈ lw_tbl := lw_m3 (List.mem_of_getElem? (i := 80) rfl)
theorem cw_X9_may : Cond.code yX9_may cX9_may 3 (some .int) ∈ lw_tbl := lw_m3 (List.mem_of_getElem? (i := 88) rfl)
theorem cw_X9_throwWith : Cond.code yX9_throwWith cX9_throwWith 4 (some .int) ∈ lw_tbl := lw_m3 (List.mem_of_getElem? (i := 103) rfl)
theorem cw_X9_ends : Cond.code yX9_ends cX9_ends 1 (some .int) ∈ lw_tbl := lw_m3 (List.mem_of_getElem? (i := 139) rfl)
theorem cw_X9_breaks : Cond.code yX9_breaks cX9_breaks 2 (some .int) ∈ lw_tbl := lw_m3 (List.mem_of_getElem? (i := 147) rfl)
theorem cw_X9_now : Cond.code yX9_now cX9_now 2 (some .int) ∈ lw_tbl := lw_m3 (List.mem_of_getElem? (i := 151) rfl)
theorem cw_X9_anew : Cond.code yX9_anew cX9_anew 2 (some .int) ∈ lw_tbl := lw_m3 (List.mem_of_getElem? (i := 155) rfl)
theorem cw_X9_longest : Cond.code yX9_longest cX9_longest 1 (some .int) ∈ lw_tbl := lw_m3 (List.mem_of_getElem? (i := 159) rfl)
theorem cw_X9_begins : Cond.code yX9_begins cX9_begins 2 (some .int) ∈ lw_tbl := lw_m3 (List.mem_of_getElem? (i := 203) rfl)
theorem cw_X9_most : Cond.code yX9_most cX9_most 2 (some .int) ∈ lw_tbl := lw_m3 (List.mem_of_getElem? (i := 207) rfl)
theorem cw_X9_rings : Cond.code yX9_rings cX9_rings 4 (some .int) ∈ lw_tbl := lw_m4 (List.mem_of_getElem? (i := 12) rfl)
theorem cw_X9_meeting : Cond.code yX9_meeting cX9_meeting 7 (some .int) ∈ lw_tbl := lw_m4 (List.mem_of_getElem? (i := 39) rfl)
theorem cw_X9_songs : Cond.code yX9_songs cX9_songs 8 (some .int) ∈ lw_tbl := lw_m4 (List.mem_of_getElem? (i := 72) rfl)
theorem cw_X9_hole : Cond.code yX9_hole cX9_hole 4 (some .int) ∈ lw_tbl := lw_m4 (List.mem_of_getElem? (i := 81) rfl)
theorem cw_X9_night : Cond.code yX9_night cX9_night 2 (some .int) ∈ lw_tbl := lw_m4 (List.mem_of_getElem? (i := 90) rfl)
theorem cw_X9_least : Cond.code yX9_least cX9_least 2 (some .int) ∈ lw_tbl := lw_m4 (List.mem_of_getElem? (i := 106) rfl)
theorem cw_X9_dry : Cond.code yX9_dry cX9_dry 2 (some .int) ∈ lw_tbl := lw_m4 (List.mem_of_getElem? (i := 110) rfl)
theorem cw_X9_tell : Cond.code yX9_tell cX9_tell 4 (some .int) ∈ lw_tbl := lw_m4 (List.mem_of_getElem? (i := 114) rfl)
theorem cw_X9_cheats : Cond.code yX9_cheats cX9_cheats 2 (some .int) ∈ lw_tbl := lw_m4 (List.mem_of_getElem? (i := 123) rfl)
theorem cw_X9_mark : Cond.code yX9_mark cX9_mark 3 (some .int) ∈ lw_tbl := lw_m4 (List.mem_of_getElem? (i := 151) rfl)
theorem cw_X9_keep : Cond.code yX9_keep cX9_keep 3 (some .int) ∈ lw_tbl := lw_m4 (List.mem_of_getElem? (i := 186) rfl)
theorem cw_X9_back : Cond.code yX9_back cX9_back 3 (some .int) ∈ lw_tbl := lw_m4 (List.mem_of_getElem? (i := 201) rfl)
theorem cw_X9_count : Cond.code yX9_count cX9_count 2 (some .int) ∈ lw_tbl := lw_m4 (List.mem_of_getElem? (i := 205) rfl)
theorem cw_X9_trace : Cond.code yX9_trace cX9_trace 1 (some .long) ∈ lw_tbl := lw_m4 (List.mem_of_getElem? (i := 209) rfl)
theorem cw_X9_imageAt : Cond.code yX9_imageAt cX9_imageAt 2 (some (.object "SpadeRings$Now")) ∈ lw_tbl := lw_m4 (List.mem_of_getElem? (i := 190) rfl)
theorem cw_X9_markAsPerson : Cond.code yX9_markAsPerson cX9_markAsPerson 2 (some .int) ∈ lw_tbl := lw_m4 (List.mem_of_getElem? (i := 156) rfl)
theorem cw_X9_markAsDigger : Cond.code yX9_markAsDigger cX9_markAsDigger 2 (some .int) ∈ lw_tbl := lw_m4 (List.mem_of_getElem? (i := 160) rfl)
theorem cw_X9_markAsSinger : Cond.code yX9_markAsSinger cX9_markAsSinger 2 (some .int) ∈ lw_tbl := lw_m4 (List.mem_of_getElem? (i := 166) rfl)
theorem cw_X9_markAsLeft : Cond.code yX9_markAsLeft cX9_markAsLeft 2 (some .int) ∈ lw_tbl := lw_m4 (List.mem_of_getElem? (i := 171) rfl)
theorem cw_X9_markAsProphet : Cond.code yX9_markAsProphet cX9_markAsProphet 2 (some .int) ∈ lw_tbl := lw_m4 (List.mem_of_getElem? (i := 176) rfl)
theorem cw_X9_markAsSlow : Cond.code yX9_markAsSlow cX9_markAsSlow 2 (some .int) ∈ lw_tbl := lw_m4 (List.mem_of_getElem? (i := 181) rfl)
theorem cw_X9_within : Cond.code yX9_within cX9_within 3 (some .boolean) ∈ lw_tbl := lw_m2 (List.mem_of_getElem? (i := 113) rfl)
theorem cw_X9_hasBit : Cond.code yX9_hasBit cX9_hasBit 2 (some .boolean) ∈ lw_tbl := lw_m3 (List.mem_of_getElem? (i := 75) rfl)
theorem cw_X9_asNumber : Cond.code yX9_asNumber cX9_asNumber 1 (some .int) ∈ lw_tbl := lw_m3 (List.mem_of_getElem? (i := 27) rfl)
theorem cw_X9_cell : Cond.code yX9_cell cX9_cell 2 (some .int) ∈ lw_tbl := lw_m2 (List.mem_of_getElem? (i := 151) rfl)
theorem cw_X9_put : Cond.code yX9_put cX9_put 3 none ∈ lw_tbl := lw_m2 (List.mem_of_getElem? (i := 124) rfl)
theorem cw_X9_fill : Cond.code yX9_fill cX9_fill 3 none ∈ lw_tbl := lw_m3 (List.mem_of_getElem? (i := 50) rfl)
theorem cw_X9_copy : Cond.code yX9_copy cX9_copy 3 none ∈ lw_tbl := lw_m4 (List.mem_of_getElem? (i := 197) rfl)
theorem cw_X9_quotient : Cond.code yX9_quotient cX9_quotient 2 (some .int) ∈ lw_tbl := lw_m3 (List.mem_of_getElem? (i := 120) rfl)
theorem cw_X9_remainder : Cond.code yX9_remainder cX9_remainder 2 (some .int) ∈ lw_tbl := lw_m4 (List.mem_of_getElem? (i := 63) rfl)
theorem cw_X10_in : Cond.code yX10_in cX10_in 3 (some .boolean) ∈ lw_tbl := lw_m5 (List.mem_of_getElem? (i := 110) rfl)
theorem cw_X10_type : Cond.code yX10_type cX10_type 5 (some .int) ∈ lw_tbl := lw_m5 (List.mem_of_getElem? (i := 107) rfl)
theorem cw_X10_clear : Cond.code yX10_clear cX10_clear 2 (some .int) ∈ lw_tbl := lw_m5 (List.mem_of_getElem? (i := 115) rfl)
theorem cw_X10_here : Cond.code yX10_here cX10_here 1 (some .int) ∈ lw_tbl := lw_m5 (List.mem_of_getElem? (i := 127) rfl)
theorem cw_X10_meaning : Cond.code yX10_meaning cX10_meaning 1 (some .int) ∈ lw_tbl := lw_m5 (List.mem_of_getElem? (i := 130) rfl)
theorem cw_X10_next : Cond.code yX10_next cX10_next 3 none ∈ lw_tbl := lw_m5 (List.mem_of_getElem? (i := 123) rfl)
theorem cw_X10_due : Cond.code yX10_due cX10_due 3 (some .int) ∈ lw_tbl := lw_m5 (List.mem_of_getElem? (i := 138) rfl)
theorem cw_X10_number : Cond.code yX10_number cX10_number 3 (some .int) ∈ lw_tbl := lw_m5 (List.mem_of_getElem? (i := 142) rfl)
theorem cw_X10_side : Cond.code yX10_side cX10_side 3 (some .int) ∈ lw_tbl := lw_m5 (List.mem_of_getElem? (i := 146) rfl)
theorem cw_X10_readItem : Cond.code yX10_readItem cX10_readItem 3 none ∈ lw_tbl := lw_m5 (List.mem_of_getElem? (i := 134) rfl)
theorem cw_X10_gang : Cond.code yX10_gang cX10_gang 3 (some .int) ∈ lw_tbl := lw_m5 (List.mem_of_getElem? (i := 119) rfl)
theorem cw_X10_isDigger : Cond.code yX10_isDigger cX10_isDigger 2 (some .boolean) ∈ lw_tbl := lw_m5 (List.mem_of_getElem? (i := 158) rfl)
theorem cw_X10_isSpade : Cond.code yX10_isSpade cX10_isSpade 2 (some .boolean) ∈ lw_tbl := lw_m5 (List.mem_of_getElem? (i := 166) rfl)
theorem cw_X10_bitsIn : Cond.code yX10_bitsIn cX10_bitsIn 3 (some .int) ∈ lw_tbl := lw_m6 (List.mem_of_getElem? (i := 83) rfl)
theorem cw_X10_digger : Cond.code yX10_digger cX10_digger 3 (some .int) ∈ lw_tbl := lw_m5 (List.mem_of_getElem? (i := 154) rfl)
theorem cw_X10_spade : Cond.code yX10_spade cX10_spade 3 (some .int) ∈ lw_tbl := lw_m5 (List.mem_of_getElem? (i := 162) rfl)
theorem cw_X10_yard : Cond.code yX10_yard cX10_yard 3 (some .int) ∈ lw_tbl := lw_m5 (List.mem_of_getElem? (i := 170) rfl)
theorem cw_X10_mayNow : Cond.code yX10_mayNow cX10_mayNow 4 (some .boolean) ∈ lw_tbl := lw_m5 (List.mem_of_getElem? (i := 178) rfl)
theorem cw_X10_may : Cond.code yX10_may cX10_may 3 (some .int) ∈ lw_tbl := lw_m5 (List.mem_of_getElem? (i := 174) rfl)
theorem cw_X10_yardNow : Cond.code yX10_yardNow cX10_yardNow 2 (some .int) ∈ lw_tbl := lw_m5 (List.mem_of_getElem? (i := 186) rfl)
theorem cw_X10_throwWith : Cond.code yX10_throwWith cX10_throwWith 6 (some .int) ∈ lw_tbl := lw_m5 (List.mem_of_getElem? (i := 182) rfl)
theorem cw_X10_ends : Cond.code yX10_ends cX10_ends 3 (some .int) ∈ lw_tbl := lw_m5 (List.mem_of_getElem? (i := 190) rfl)
theorem cw_X10_breaks : Cond.code yX10_breaks cX10_breaks 3 (some .int) ∈ lw_tbl := lw_m5 (List.mem_of_getElem? (i := 194) rfl)
theorem cw_X10_now : Cond.code yX10_now cX10_now 2 (some .int) ∈ lw_tbl := lw_m5 (List.mem_of_getElem? (i := 198) rfl)
theorem cw_X10_anew : Cond.code yX10_anew cX10_anew 3 (some .int) ∈ lw_tbl := lw_m5 (List.mem_of_getElem? (i := 150) rfl)
theorem cw_X10_findEdges : Cond.code yX10_findEdges cX10_findEdges 4 none ∈ lw_tbl := lw_m5 (List.mem_of_getElem? (i := 207) rfl)
theorem cw_X10_begin : Cond.code yX10_begin cX10_begin 2 none ∈ lw_tbl := lw_m5 (List.mem_of_getElem? (i := 219) rfl)
theorem cw_X10_weight : Cond.code yX10_weight cX10_weight 3 (some .int) ∈ lw_tbl := lw_m5 (List.mem_of_getElem? (i := 232) rfl)
theorem cw_X10_findWays : Cond.code yX10_findWays cX10_findWays 8 none ∈ lw_tbl := lw_m5 (List.mem_of_getElem? (i := 227) rfl)
theorem cw_X10_augment : Cond.code yX10_augment cX10_augment 7 (some .int) ∈ lw_tbl := lw_m5 (List.mem_of_getElem? (i := 223) rfl)
theorem cw_X10_isLong : Cond.code yX10_isLong cX10_isLong 3 (some .boolean) ∈ lw_tbl := lw_m5 (List.mem_of_getElem? (i := 215) rfl)
theorem cw_X10_longestBy : Cond.code yX10_longestBy cX10_longestBy 2 (some .int) ∈ lw_tbl := lw_m5 (List.mem_of_getElem? (i := 211) rfl)
theorem cw_X10_longest : Cond.code yX10_longest cX10_longest 1 (some .int) ∈ lw_tbl := lw_m5 (List.mem_of_getElem? (i := 203) rfl)
theorem cw_X10_isUsed : Cond.code yX10_isUsed cX10_isUsed 4 (some .boolean) ∈ lw_tbl := lw_m6 (List.mem_of_getElem? (i := 0) rfl)
theorem cw_X10_leaves : Cond.code yX10_leaves cX10_leaves 4 (some .boolean) ∈ lw_tbl := lw_m6 (List.mem_of_getElem? (i := 4) rfl)
theorem cw_X10_begins : Cond.code yX10_begins cX10_begins 4 (some .int) ∈ lw_tbl := lw_m5 (List.mem_of_getElem? (i := 236) rfl)
theorem cw_X10_most : Cond.code yX10_most cX10_most 4 (some .int) ∈ lw_tbl := lw_m6 (List.mem_of_getElem? (i := 8) rfl)
theorem cw_X10_dugBy : Cond.code yX10_dugBy cX10_dugBy 7 (some .int) ∈ lw_tbl := lw_m6 (List.mem_of_getElem? (i := 20) rfl)
theorem cw_X10_part : Cond.code yX10_part cX10_part 7 (some .boolean) ∈ lw_tbl := lw_m6 (List.mem_of_getElem? (i := 16) rfl)
theorem cw_X10_isAhead : Cond.code yX10_isAhead cX10_isAhead 2 (some .boolean) ∈ lw_tbl := lw_m6 (List.mem_of_getElem? (i := 24) rfl)
theorem cw_X10_rings : Cond.code yX10_rings cX10_rings 8 (some .int) ∈ lw_tbl := lw_m6 (List.mem_of_getElem? (i := 12) rfl)
theorem cw_X10_stroke : Cond.code yX10_stroke cX10_stroke 7 (some .int) ∈ lw_tbl := lw_m6 (List.mem_of_getElem? (i := 36) rfl)
theorem cw_X10_allLeft : Cond.code yX10_allLeft cX10_allLeft 3 (some .int) ∈ lw_tbl := lw_m6 (List.mem_of_getElem? (i := 32) rfl)
theorem cw_X10_meeting : Cond.code yX10_meeting cX10_meeting 10 (some .int) ∈ lw_tbl := lw_m6 (List.mem_of_getElem? (i := 28) rfl)
theorem cw_X10_songs : Cond.code yX10_songs cX10_songs 7 (some .int) ∈ lw_tbl := lw_m6 (List.mem_of_getElem? (i := 40) rfl)
theorem cw_X10_hole : Cond.code yX10_hole cX10_hole 4 (some .int) ∈ lw_tbl := lw_m6 (List.mem_of_getElem? (i := 44) rfl)
theorem cw_X10_nextHole : Cond.code yX10_nextHole cX10_nextHole 5 (some .int) ∈ lw_tbl := lw_m6 (List.mem_of_getElem? (i := 56) rfl)
theorem cw_X10_isClosed : Cond.code yX10_isClosed cX10_isClosed 6 (some .boolean) ∈ lw_tbl := lw_m6 (List.mem_of_getElem? (i := 52) rfl)
theorem cw_X10_night : Cond.code yX10_night cX10_night 2 (some .int) ∈ lw_tbl := lw_m6 (List.mem_of_getElem? (i := 48) rfl)
theorem cw_X10_least : Cond.code yX10_least cX10_least 2 (some .int) ∈ lw_tbl := lw_m6 (List.mem_of_getElem? (i := 60) rfl)
theorem cw_X10_dry : Cond.code yX10_dry cX10_dry 2 (some .int) ∈ lw_tbl := lw_m6 (List.mem_of_getElem? (i := 64) rfl)
theorem cw_X10_tell : Cond.code yX10_tell cX10_tell 4 (some .int) ∈ lw_tbl := lw_m6 (List.mem_of_getElem? (i := 68) rfl)
theorem cw_X10_isFalse : Cond.code yX10_isFalse cX10_isFalse 5 (some .boolean) ∈ lw_tbl := lw_m6 (List.mem_of_getElem? (i := 76) rfl)
theorem cw_X10_cheats : Cond.code yX10_cheats cX10_cheats 6 (some .int) ∈ lw_tbl := lw_m6 (List.mem_of_getElem? (i := 72) rfl)
theorem cw_X10_mark : Cond.code yX10_mark cX10_mark 4 (some .int) ∈ lw_tbl := lw_m6 (List.mem_of_getElem? (i := 80) rfl)
theorem cw_X10_copy : Cond.code yX10_copy cX10_copy 4 none ∈ lw_tbl := lw_m6 (List.mem_of_getElem? (i := 96) rfl)
theorem cw_X10_keep : Cond.code yX10_keep cX10_keep 2 (some .int) ∈ lw_tbl := lw_m6 (List.mem_of_getElem? (i := 92) rfl)
theorem cw_X10_back : Cond.code yX10_back cX10_back 2 (some .int) ∈ lw_tbl := lw_m6 (List.mem_of_getElem? (i := 100) rfl)
theorem cw_X10_count : Cond.code yX10_count cX10_count 2 (some .int) ∈ lw_tbl := lw_m6 (List.mem_of_getElem? (i := 104) rfl)
theorem cw_X10_trace : Cond.code yX10_trace cX10_trace 1 (some .long) ∈ lw_tbl := lw_m6 (List.mem_of_getElem? (i := 108) rfl)
/-- a word that stays true as the machine links -/
def mGoodW (w : Jvm.Cond) : Bool := goodWord w || (match w with | .methodLinkNest _ _ _ _ => true | _ => false)
theorem vwCl_in : ∀ (ci : Nat) (q : vw_C), vwCl[ci]? = some q → ∀ w ∈ u_ws q.1 q.2.1 q.2.2, w ∈ lw_tbl := by
  intro ci q h
  have h0 : ∀ q ∈ vwCl, ∀ w ∈ u_ws q.1 q.2.1 q.2.2, w ∈ lw_tbl := by decide +kernel
  exact h0 q (List.mem_of_getElem? h)
