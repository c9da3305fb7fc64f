/-! FROM THE SMALL MACHINE TO THE LARGE ONE, 4: each instruction -/
theorem ne130 {a : Nat} (h : a < 86) : a ≠ 130 := by omega
theorem ne130s {i : Nat} (h : i < 5) : 100 + i ≠ 130 := by omega
theorem ne130b {i : Nat} (h : i < 5) : 110 + i ≠ 130 := by omega
def mSw : Instr → Bool
  | .tableswitch _ _ _ _ => true
  | .lookupswitch _ _ => true
  | _ => false
theorem mChkI_dec {cc : ByteArray} {pc : Nat} {e : mE} (h : mChkI cc pc e = true) : decode cc pc = .ok (e.1, e.2.1) := by
  unfold mChkI at h
  rw [Bool.and_eq_true, Bool.and_eq_true] at h
  exact of_decide_eq_true h.1.1
theorem mChkI_len {cc : ByteArray} {pc len : Nat} {i : Instr} {aux : List Nat} {z : Int} (hi : mSw i = false) (h : mChkI cc pc (i, len, aux, z) = true) : decode cc pc = .ok (i, mLen i) := by
  have h1 := mChkI_dec h
  unfold mChkI at h
  rw [Bool.and_eq_true, Bool.and_eq_true] at h
  have h2 := h.1.2
  have h3 : len = mLen i := by
    cases i <;> first | exact Nat.eq_of_beq_eq_true h2 | cases hi
  rw [h1, h3]
theorem mJmp_eq {pc t : Nat} {o : Int} (h : mJmp pc o [t] = true) : (pc : Int) + o = (t : Int) := of_decide_eq_true h
theorem mChkI_jmp {cc : ByteArray} {pc : Nat} {e : mE} (h : mChkI cc pc e = true) : (match e.1 with
  | .goto o => mJmp pc o e.2.2.1
  | .ifCond _ o => mJmp pc o e.2.2.1
  | .if_icmp _ o => mJmp pc o e.2.2.1
  | .ifnull o => mJmp pc o e.2.2.1
  | .ifnonnull o => mJmp pc o e.2.2.1
  | _ => true) = true := by
  unfold mChkI at h
  rw [Bool.and_eq_true] at h
  exact h.2
theorem bif_f {b : Bool} {A : Prop} (h : bif b then False else A) : b = false ∧ A := by
  cases b
  · exact ⟨rfl, h⟩
  · exact h.elim
theorem bif_t {b : Bool} {A : Prop} (h : bif b then A else False) : b = true ∧ A := by
  cases b
  · exact h.elim
  · exact ⟨rfl, h⟩
theorem beq130 {x : Nat} (h : Nat.beq x 130 = false) : x ≠ 130 := fun e => by rw [e] at h; cases h
theorem blt_lt {a b : Nat} (h : Nat.blt a b = true) : a < b := Nat.le_of_ble_eq_true h
theorem mTgt_eq {pc : Nat} {off : Int} (h : mJ pc off) : (pc : Int) + off = ((mTgt pc off : Nat) : Int) := (Int.toNat_of_nonneg h).symm
def mRetI (v : Option Value) : Instr := match v with
  | none => .return_
  | some (.int _) => .ireturn
  | some (.long _) => .lreturn
  | _ => .areturn
theorem chk_get {own : String} {idx len ci k : Nat} {t : List Nat} {cst : Int} (h : mChkL mT own (.getfield idx, len, ci :: k :: t, cst) = true) : (ci = 50 → Cond.fieldLink own idx "java/lang/String" (if k = 0 then "coder" else "value") (if k = 0 then "B" else "[B") ∈ lw_G) ∧ (ci ≠ 50 → ∃ q : vw_C, vwCl[ci]? = some q ∧ k < q.2.2 ∧ Cond.fieldLink own idx (q.2.1 k).1 (q.2.1 k).2.1 (q.2.1 k).2.2.1 ∈ lw_G) := by
  match t, h with
  | [], h => exact absurd h (by simp [mChkL])
  | [w], h =>
    unfold mChkL at h
    simp only at h
    refine ⟨fun hc => ?_, fun hc => ?_⟩
    · rw [if_pos hc] at h
      exact lw_G_in (mWd_in h) rfl
    · rw [if_neg hc] at h
      cases hr : vwCl[ci]? with
      | none => rw [hr] at h; cases h
      | some q =>
        rw [hr] at h
        simp only [Bool.and_eq_true, decide_eq_true_eq] at h
        exact ⟨q, rfl, h.1, lw_G_in (mWd_in h.2) rfl⟩
  | _ :: _ :: _, h => exact absurd h (by simp [mChkL])
theorem chk_put {own : String} {idx len ci k : Nat} {t : List Nat} {cst : Int} (h : mChkL mT own (.putfield idx, len, ci :: k :: t, cst) = true) : ∃ q : vw_C, vwCl[ci]? = some q ∧ k < q.2.2 ∧ Cond.fieldLink own idx (q.2.1 k).1 (q.2.1 k).2.1 (q.2.1 k).2.2.1 ∈ lw_G := by
  match t, h with
  | [], h => exact absurd h (by simp [mChkL])
  | [w], h =>
    unfold mChkL at h
    simp only at h
    cases hr : vwCl[ci]? with
    | none => rw [hr] at h; cases h
    | some q =>
      rw [hr] at h
      simp only [Bool.and_eq_true, decide_eq_true_eq] at h
      exact ⟨q, rfl, h.1, lw_G_in (mWd_in h.2) rfl⟩
  | _ :: _ :: _, h => exact absurd h (by simp [mChkL])
theorem list_at {fs : List (Nat × Nat)} {k : Nat} {f : Nat × Nat} (h : fs[k]? = some f) : k < fs.length ∧ fs.getD k (0, 0) = f := by
  obtain ⟨hl, e⟩ := List.getElem?_eq_some_iff.mp h
  refine ⟨hl, ?_⟩
  rw [List.getD_eq_getElem?_getD, h]
  rfl
theorem fld_at {G : mG} {st : mSt} {p k : Nat} {fs : List (Nat × Nat)} {f : Nat × Nat} (h : fs[k]? = some f) : ((List.range fs.length).map (fun k => mTr G (mFld st p k (fs.getD k (0, 0)))))[k]? = some (mTr G (mFld st p k f)) := by
  obtain ⟨hl, e⟩ := list_at h
  rw [List.getElem?_map, List.getElem?_range hl, Option.map_some, e]
theorem fld_set {G : mG} {st st' : mSt} {p k : Nat} {fs : List (Nat × Nat)} {f : Nat × Nat} {v : Value} (h : fs[k]? = some f) (hv : mTr G (mFld st' p k f) = v) (ho : ∀ j f, j ≠ k → mFld st' p j f = mFld st p j f) : ((List.range fs.length).map (fun k => mTr G (mFld st p k (fs.getD k (0, 0))))).set k v = (List.range fs.length).map (fun k => mTr G (mFld st' p k (fs.getD k (0, 0)))) := by
  obtain ⟨hl, e⟩ := list_at h
  apply List.ext_getElem?
  intro j
  by_cases hj : j < fs.length
  · by_cases hjk : j = k
    · subst hjk
      rw [List.getElem?_set_self (by simpa using hj), List.getElem?_map, List.getElem?_range hj, Option.map_some, e, hv]
    · rw [List.getElem?_set_ne (Ne.symm hjk), List.getElem?_map, List.getElem?_map, List.getElem?_range hj, Option.map_some, Option.map_some, ho j _ hjk]
  · rw [List.getElem?_eq_none (by simpa using hj), List.getElem?_eq_none (by simpa using hj)]
section MROW
variable {p : Program} {l : Launch} {e : Env} {R : Room} {s : State} {m : MethodId} {args : Array Value} {below : List Frame} {meth : Method} {c : Code} {H : Heap} {locs : List Loc} {cells slots : Nat} {Qw : State → Prop}
variable {G : mG} {cc : ByteArray} {own : String} {nL : Nat} {S : Nat × (Nat → Int32)}
/-- 'K' is good: where it holds, the large machine comes to its goal -/
def mKg (p : Program) (l : Launch) (e : Env) (R : Room) (s : State) (m : MethodId) (args : Array Value) (below : List Frame) (meth : Method) (c : Code) (cells slots : Nat) (Qw : State → Prop) (G : mG) (nL : Nat) (K : Nat → mLs → List Value → mSt → Prop) : Prop :=
  ∀ (pc : Nat) (ls : mLs) (sk : List Value) (st : mSt) (H : Heap) (locs : List Loc) (lsA : Array Slot), K pc ls sk st → va_P G.1 vwCl (mWs G st) H → va_S (mA G) s.heap H locs → mLo G lsA nL ls → W p l e R s m args below meth c H locs cells slots Qw (F0 m pc lsA (sk.map (mTr G)))
def mRg (p : Program) (l : Launch) (e : Env) (R : Room) (s : State) (m : MethodId) (args : Array Value) (below : List Frame) (meth : Method) (c : Code) (cells slots : Nat) (Qw : State → Prop) (G : mG) (cc : ByteArray) (rt : Option FieldType) (Q : Option Value → mSt → Prop) : Prop :=
  ∀ (v : Option Value) (st : mSt) (H : Heap) (locs : List Loc) (pc : Nat) (lsA : Array Slot), Q v st → mRet rt v → va_P G.1 vwCl (mWs G st) H → va_S (mA G) s.heap H locs → decode cc pc = .ok (mRetI v, 1) → W p l e R s m args below meth c H locs cells slots Qw (F0 m pc lsA (v.toList.map (mTr G)))
/-- a store to a field -/
theorem mPut {idx len ci k : Nat} {t : List Nat} {cst : Int} (F : mFix p s m args c cc nL own G S) (hchk : mChkL mT own (.putfield idx, len, ci :: k :: t, cst) = true) {pc pl : Nat} {lsA : Array Slot} (hdg : decode cc pc = .ok (.putfield idx, 3)) {st st' : mSt} {fs : List (Nat × Nat)} {f : Nat × Nat} {v : Value} {ty : FieldType} {rest : List Value}
    (hlay : lay pl = (4, ci, fs)) (hf : fs[k]? = some f) (hd : ∀ q : vw_C, vwCl[ci]? = some q → mKind f.1 (q.2.1 k).2.2.1 (q.2.1 k).2.2.2 = true → (q.2.1 k).2.2.2 = false ∧ parseFieldDescriptor (q.2.1 k).2.2.1 = some ty) (hn : narrow ty v = v) (hfit : fits ty v = true)
    (hv : mTr G (mFld st' pl k f) = v) (ho : ∀ j f, j ≠ k → mFld st' pl j f = mFld st pl j f) (ho2 : ∀ q, q ≠ pl → mCell G st' q = mCell G st q) (hP : va_P G.1 vwCl (mWs G st) H) (hS : va_S (mA G) s.heap H locs)
    (kk : ∀ (H1 : Heap) (locs1 : List Loc), va_P G.1 vwCl (mWs G st') H1 → va_S (mA G) s.heap H1 locs1 → W p l e R s m args below meth c H1 locs1 cells slots Qw (F0 m (pc + 3) lsA rest)) : W p l e R s m args below meth c H locs cells slots Qw (F0 m pc lsA (v :: .ref (G.2.1 pl) :: rest)) := by
  obtain ⟨hx, hb, hml, hown, hts, hKK, hSR, -⟩ := F
  obtain ⟨q, hq, hk, hlink⟩ := chk_put hchk
  obtain ⟨hp, q', hq', hlen, hkind⟩ := lay_obj hlay
  cases hq.symm.trans hq'
  have hkd := hkind k hk
  rw [(list_at hf).2] at hkd
  obtain ⟨hfin, hparse⟩ := hd q hq hkd
  obtain ⟨ty0, hty⟩ := vwCl_ty hq
  have hset := mWs_set (G := G) (st := st) (st' := st') (p := pl) hp (mCell_4 hlay) ho2
  rw [← fld_set (st := st) (st' := st') (G := G) hf hv ho] at hset
  refine va_put (D := G.1) (ci := ci) (C := q.1) (T := q.2.1) (N := q.2.2) (ty := ty) hx hb hts (u_ws_G hq) ty0 hty (vwCl_nm q (List.mem_of_getElem? hq)) hown hKK hP (mWs_D hSR.1) hS pl (by rw [mWs_get hp, mCell_4 hlay]) hq k hk (hts _ hlink) (fun _ h => h) hfin hparse hn hfit (by rw [List.length_map, List.length_range, hlen]; exact hk) hdg (fun H1 locs1 h1 h2 h3 => ?_)
  rw [hset] at h1
  exact kk H1 locs1 h1 h3
/-- one step -/
theorem mStep_sound {C : Nat → List Value → mSt → Option Value → mSt → Prop} {d : Nat} (F : mFix p s m args c cc nL own G S) (hC : mCs l G d C) (hR : d + 1 ≤ R.frames ∧ 59 + 64 * d ≤ R.locals) (hcs : cells ≤ R.cells ∧ slots ≤ R.slots)
    {rt : Option FieldType} {Q : Option Value → mSt → Prop} {K : Nat → mLs → List Value → mSt → Prop} (hret : mRg p l e R s m args below meth c cells slots Qw G cc rt Q) (hK : mKg p l e R s m args below meth c cells slots Qw G nL K)
    {e0 : mE} {pc : Nat} (hchk : mChkI cc pc e0 = true) (hlnk : mChkL mT own e0 = true) {ls : mLs} {sk : List Value} {st : mSt} (h : mStep C S rt Q K e0 pc ls sk st) {lsA : Array Slot} (hP : va_P G.1 vwCl (mWs G st) H) (hS : va_S (mA G) s.heap H locs) (hl : mLo G lsA nL ls) :
    W p l e R s m args below meth c H locs cells slots Qw (F0 m pc lsA (sk.map (mTr G))) := by
  obtain ⟨hx, hb, hml, hown, hts, hKK, hSR, hX⟩ := id F
  have hF := hSR.2.2.2.2.2
  have hD := mWs_D (st := st) hSR.1
  obtain ⟨i, len, aux, z⟩ := e0
  cases i
  case iconst n =>
    have hdg := mChkI_len rfl hchk
    unfold mStep at h
    dsimp only at h
    exact lv_iconst hx hb hdg rfl (hK _ _ _ _ _ _ _ h hP hS hl)
  case bipush n =>
    have hdg := mChkI_len rfl hchk
    unfold mStep at h
    dsimp only at h
    exact lv_bipush hx hb hdg rfl (hK _ _ _ _ _ _ _ h hP hS hl)
  case sipush n =>
    have hdg := mChkI_len rfl hchk
    unfold mStep at h
    dsimp only at h
    exact lv_sipush hx hb hdg rfl (hK _ _ _ _ _ _ _ h hP hS hl)
  case lconst n =>
    have hdg := mChkI_len rfl hchk
    unfold mStep at h
    dsimp only at h
    exact lv_lconst hx hb hdg rfl (hK _ _ _ _ _ _ _ h hP hS hl)
  case aconst_null =>
    have hdg := mChkI_len rfl hchk
    unfold mStep at h
    dsimp only at h
    exact lv_null hx hb hdg (hK _ _ _ _ _ _ _ h hP hS hl)
  case ldc idx =>
    have hdg := mChkI_len rfl hchk
    unfold mStep at h
    dsimp only at h
    split at h
    · rename_i w
      have hw : mWd w (.constant own idx (Int32.ofInt z)) = true := hlnk
      exact lv_ldc hx hb hown (hts _ (lw_G_in (mWd_in hw) rfl)) hdg (hK _ _ _ _ _ _ _ h hP hS hl)
    · rename_i i
      have hw : (decide (i < 5) && decide (own = "SpadeRings$Script") && Nat.beq ([122, 128, 130, 132, 134].getD i 0) idx) = true := hlnk
      simp only [Bool.and_eq_true, decide_eq_true_eq] at hw
      obtain ⟨⟨h1, h2⟩, h3⟩ := hw
      have h4 := hSR.2.2.1 i h1
      have h5 : strI.getD i 0 = idx := Nat.eq_of_beq_eq_true h3
      rw [h5] at h4
      subst h2
      have h6 := hK _ _ _ _ _ _ _ h hP hS hl
      rw [List.map_cons, mTr_ref (ne130s h1)] at h6
      exact va_ldcS hx hb hown h4 hdg h6
    · exact h.elim
  case ldc_w idx =>
    have hdg := mChkI_len rfl hchk
    unfold mStep at h
    dsimp only at h
    split at h
    · rename_i w
      have hw : mWd w (.constant own idx (Int32.ofInt z)) = true := hlnk
      exact lv_ldcw hx hb hown (hts _ (lw_G_in (mWd_in hw) rfl)) hdg (hK _ _ _ _ _ _ _ h hP hS hl)
    · exact h.elim
  case ldc2_w idx =>
    have hdg := mChkI_len rfl hchk
    unfold mStep at h
    dsimp only at h
    split at h
    · rename_i w
      have hw : mWd w (.constantLong own idx (Int64.ofInt z)) = true := hlnk
      exact lv_ldc2 hx hb hown (hts _ (lw_G_in (mWd_in hw) rfl)) hdg (hK _ _ _ _ _ _ _ h hP hS hl)
    · exact h.elim
  case iload_n i =>
    have hdg := mChkI_len rfl hchk
    unfold mStep at h
    dsimp only at h
    split at h
    · rename_i x hg
      exact lv_iload_n hx hb hdg rfl (mLo_get hl hg) (hK _ _ _ _ _ _ _ h hP hS hl)
    · exact h.elim
  case iload i =>
    have hdg := mChkI_len rfl hchk
    unfold mStep at h
    dsimp only at h
    split at h
    · rename_i x hg
      exact lv_iload hx hb hdg (mLo_get hl hg) (hK _ _ _ _ _ _ _ h hP hS hl)
    · exact h.elim
  case lload_n i =>
    have hdg := mChkI_len rfl hchk
    unfold mStep at h
    dsimp only at h
    split at h
    · rename_i x hg
      exact lv_lload_n hx hb hdg rfl (mLo_get hl hg) (hK _ _ _ _ _ _ _ h hP hS hl)
    · exact h.elim
  case lload i =>
    have hdg := mChkI_len rfl hchk
    unfold mStep at h
    dsimp only at h
    split at h
    · rename_i x hg
      exact lv_lload hx hb hdg (mLo_get hl hg) (hK _ _ _ _ _ _ _ h hP hS hl)
    · exact h.elim
  case aload_n i =>
    have hdg := mChkI_len rfl hchk
    unfold mStep at h
    dsimp only at h
    split at h
    · rename_i x hg
      replace h := bif_f h
      obtain ⟨h0, h⟩ := h
      have h0 := beq130 h0
      have h1 := mLo_get hl hg
      rw [mTr_ref h0] at h1
      have h2 := hK _ _ _ _ _ _ _ h hP hS hl
      rw [List.map_cons, mTr_ref h0] at h2
      exact lv_aload_n hx hb hdg rfl h1 h2
    · rename_i hg
      exact lv_aload_nN hx hb hdg rfl (mLo_get hl hg) (hK _ _ _ _ _ _ _ h hP hS hl)
    · exact h.elim
  case aload i =>
    have hdg := mChkI_len rfl hchk
    unfold mStep at h
    dsimp only at h
    split at h
    · rename_i x hg
      replace h := bif_f h
      obtain ⟨h0, h⟩ := h
      have h0 := beq130 h0
      have h1 := mLo_get hl hg
      rw [mTr_ref h0] at h1
      have h2 := hK _ _ _ _ _ _ _ h hP hS hl
      rw [List.map_cons, mTr_ref h0] at h2
      exact lv_aload hx hb hdg h1 h2
    · rename_i hg
      exact lv_aloadN hx hb hdg (mLo_get hl hg) (hK _ _ _ _ _ _ _ h hP hS hl)
    · exact h.elim
  case istore_n i =>
    have hdg := mChkI_len rfl hchk
    unfold mStep at h
    dsimp only at h
    split at h
    · rename_i x r
      replace h := bif_t h
      obtain ⟨h0, h⟩ := h
      have h0 := blt_lt h0
      exact lv_istore_n hx hb hdg rfl hl.1 (by rw [← hl.2]; exact h0) rfl (fun ls' hl' => hK _ _ _ _ _ _ _ h hP hS ⟨lv_mono hl' (mPrs_set1 hF h0), by rw [mSet1_len]; exact hl.2⟩)
    · exact h.elim
  case lstore_n i =>
    have hdg := mChkI_len rfl hchk
    unfold mStep at h
    dsimp only at h
    split at h
    · rename_i x r
      replace h := bif_t h
      obtain ⟨h0, h⟩ := h
      have h0 := blt_lt h0
      exact lv_lstore_n hx hb hdg rfl hl.1 (by rw [← hl.2]; exact h0) rfl (fun ls' hl' => hK _ _ _ _ _ _ _ h hP hS ⟨lv_mono hl' (mPrs_set2 hF h0), by rw [mSet2_len]; exact hl.2⟩)
    · exact h.elim
  case astore_n i =>
    have hdg := mChkI_len rfl hchk
    unfold mStep at h
    dsimp only at h
    split at h
    · rename_i x r
      replace h := bif_t h
      obtain ⟨h0, h⟩ := h
      rw [Bool.and_eq_true, Bool.not_eq_true'] at h0
      have h1 := beq130 h0.2
      have h0 := blt_lt h0.1
      have e1 : mTr G (.ref x) = .ref (G.2.1 x) := mTr_ref h1
      rw [List.map_cons, e1]
      exact lv_astore_n hx hb hdg rfl hl.1 (by rw [← hl.2]; exact h0) rfl (fun ls' hl' => hK _ _ _ _ _ _ _ h hP hS ⟨lv_mono hl' (by rw [← e1]; exact mPrs_set1 hF h0), by rw [mSet1_len]; exact hl.2⟩)
    · rename_i r
      replace h := bif_t h
      obtain ⟨h0, h⟩ := h
      have h0 := blt_lt h0
      exact lv_astore_nN hx hb hdg rfl hl.1 (by rw [← hl.2]; exact h0) rfl (fun ls' hl' => hK _ _ _ _ _ _ _ h hP hS ⟨lv_mono hl' (mPrs_set1 hF h0), by rw [mSet1_len]; exact hl.2⟩)
    · exact h.elim
  case istore i =>
    have hdg := mChkI_len rfl hchk
    unfold mStep at h
    dsimp only at h
    split at h
    · rename_i x r
      replace h := bif_t h
      obtain ⟨h0, h⟩ := h
      have h0 := blt_lt h0
      exact lv_istore hx hb hdg hl.1 (by rw [← hl.2]; exact h0) rfl (fun ls' hl' => hK _ _ _ _ _ _ _ h hP hS ⟨lv_mono hl' (mPrs_set1 hF h0), by rw [mSet1_len]; exact hl.2⟩)
    · exact h.elim
  case lstore i =>
    have hdg := mChkI_len rfl hchk
    unfold mStep at h
    dsimp only at h
    split at h
    · rename_i x r
      replace h := bif_t h
      obtain ⟨h0, h⟩ := h
      have h0 := blt_lt h0
      exact lv_lstore hx hb hdg hl.1 (by rw [← hl.2]; exact h0) rfl (fun ls' hl' => hK _ _ _ _ _ _ _ h hP hS ⟨lv_mono hl' (mPrs_set2 hF h0), by rw [mSet2_len]; exact hl.2⟩)
    · exact h.elim
  case astore i =>
    have hdg := mChkI_len rfl hchk
    unfold mStep at h
    dsimp only at h
    split at h
    · rename_i x r
      replace h := bif_t h
      obtain ⟨h0, h⟩ := h
      rw [Bool.and_eq_true, Bool.not_eq_true'] at h0
      have h1 := beq130 h0.2
      have h0 := blt_lt h0.1
      have e1 : mTr G (.ref x) = .ref (G.2.1 x) := mTr_ref h1
      rw [List.map_cons, e1]
      exact lv_astore hx hb hdg hl.1 (by rw [← hl.2]; exact h0) rfl (fun ls' hl' => hK _ _ _ _ _ _ _ h hP hS ⟨lv_mono hl' (by rw [← e1]; exact mPrs_set1 hF h0), by rw [mSet1_len]; exact hl.2⟩)
    · rename_i r
      replace h := bif_t h
      obtain ⟨h0, h⟩ := h
      have h0 := blt_lt h0
      exact lv_astoreN hx hb hdg hl.1 (by rw [← hl.2]; exact h0) rfl (fun ls' hl' => hK _ _ _ _ _ _ _ h hP hS ⟨lv_mono hl' (mPrs_set1 hF h0), by rw [mSet1_len]; exact hl.2⟩)
    · exact h.elim
  case iinc i n =>
    have hdg := mChkI_len rfl hchk
    unfold mStep at h
    dsimp only at h
    split at h
    · rename_i x hg
      replace h := bif_t h
      obtain ⟨h0, h⟩ := h
      have h0 := blt_lt h0
      have hm : (i, Value.int x) ∈ mPrs G 0 ls := (mPrs_mem ls 0 _).mpr ⟨i, .int x, mGet_some hg, by rw [Nat.zero_add]; rfl⟩
      obtain ⟨k, hk⟩ := List.getElem?_of_mem hm
      exact lv_iinc hx hb hdg hl.1 hk rfl (by rw [← hl.2]; exact h0) rfl (fun ls' hl' => hK _ _ _ _ _ _ _ h hP hS ⟨lv_mono hl' (mPrs_set1 (v := .int (x + Int32.ofInt n)) hF h0), by rw [mSet1_len]; exact hl.2⟩)
    · exact h.elim
  case iadd =>
    have hdg := mChkI_len rfl hchk
    unfold mStep at h
    dsimp only at h
    split at h
    · exact lv_iadd hx hb hdg (hK _ _ _ _ _ _ _ h hP hS hl)
    · exact h.elim
  case isub =>
    have hdg := mChkI_len rfl hchk
    unfold mStep at h
    dsimp only at h
    split at h
    · exact lv_isub hx hb hdg (hK _ _ _ _ _ _ _ h hP hS hl)
    · exact h.elim
  case imul =>
    have hdg := mChkI_len rfl hchk
    unfold mStep at h
    dsimp only at h
    split at h
    · exact lv_imul hx hb hdg (hK _ _ _ _ _ _ _ h hP hS hl)
    · exact h.elim
  case iand =>
    have hdg := mChkI_len rfl hchk
    unfold mStep at h
    dsimp only at h
    split at h
    · exact lv_iand hx hb hdg (hK _ _ _ _ _ _ _ h hP hS hl)
    · exact h.elim
  case ior =>
    have hdg := mChkI_len rfl hchk
    unfold mStep at h
    dsimp only at h
    split at h
    · exact lv_ior hx hb hdg (hK _ _ _ _ _ _ _ h hP hS hl)
    · exact h.elim
  case ixor =>
    have hdg := mChkI_len rfl hchk
    unfold mStep at h
    dsimp only at h
    split at h
    · exact lv_ixor hx hb hdg (hK _ _ _ _ _ _ _ h hP hS hl)
    · exact h.elim
  case ishl =>
    have hdg := mChkI_len rfl hchk
    unfold mStep at h
    dsimp only at h
    split at h
    · exact lv_ishl hx hb hdg (hK _ _ _ _ _ _ _ h hP hS hl)
    · exact h.elim
  case ishr =>
    have hdg := mChkI_len rfl hchk
    unfold mStep at h
    dsimp only at h
    split at h
    · exact lv_ishr hx hb hdg (hK _ _ _ _ _ _ _ h hP hS hl)
    · exact h.elim
  case ladd =>
    have hdg := mChkI_len rfl hchk
    unfold mStep at h
    dsimp only at h
    split at h
    · exact lv_ladd hx hb hdg (hK _ _ _ _ _ _ _ h hP hS hl)
    · exact h.elim
  case lsub =>
    have hdg := mChkI_len rfl hchk
    unfold mStep at h
    dsimp only at h
    split at h
    · exact lv_lsub hx hb hdg (hK _ _ _ _ _ _ _ h hP hS hl)
    · exact h.elim
  case land =>
    have hdg := mChkI_len rfl hchk
    unfold mStep at h
    dsimp only at h
    split at h
    · exact lv_land hx hb hdg (hK _ _ _ _ _ _ _ h hP hS hl)
    · exact h.elim
  case lor =>
    have hdg := mChkI_len rfl hchk
    unfold mStep at h
    dsimp only at h
    split at h
    · exact lv_lor hx hb hdg (hK _ _ _ _ _ _ _ h hP hS hl)
    · exact h.elim
  case idiv =>
    have hdg := mChkI_len rfl hchk
    unfold mStep at h
    dsimp only at h
    split at h
    · exact lv_idiv hx hb hdg h.1 (hK _ _ _ _ _ _ _ h.2 hP hS hl)
    · exact h.elim
  case irem =>
    have hdg := mChkI_len rfl hchk
    unfold mStep at h
    dsimp only at h
    split at h
    · exact lv_irem hx hb hdg h.1 (hK _ _ _ _ _ _ _ h.2 hP hS hl)
    · exact h.elim
  case ineg =>
    have hdg := mChkI_len rfl hchk
    unfold mStep at h
    dsimp only at h
    split at h
    · exact lv_ineg hx hb hdg (hK _ _ _ _ _ _ _ h hP hS hl)
    · exact h.elim
  case iushr =>
    have hdg := mChkI_len rfl hchk
    unfold mStep at h
    dsimp only at h
    split at h
    · exact lv_iushr hx hb hdg rfl (hK _ _ _ _ _ _ _ h hP hS hl)
    · exact h.elim
  case lshl =>
    have hdg := mChkI_len rfl hchk
    unfold mStep at h
    dsimp only at h
    split at h
    · exact lv_lshl hx hb hdg rfl (hK _ _ _ _ _ _ _ h hP hS hl)
    · exact h.elim
  case lshr =>
    have hdg := mChkI_len rfl hchk
    unfold mStep at h
    dsimp only at h
    split at h
    · exact lv_lshr hx hb hdg rfl (hK _ _ _ _ _ _ _ h hP hS hl)
    · exact h.elim
  case lushr =>
    have hdg := mChkI_len rfl hchk
    unfold mStep at h
    dsimp only at h
    split at h
    · exact lv_lushr hx hb hdg rfl (hK _ _ _ _ _ _ _ h hP hS hl)
    · exact h.elim
  case i2l =>
    have hdg := mChkI_len rfl hchk
    unfold mStep at h
    dsimp only at h
    split at h
    · exact lv_i2l hx hb hdg rfl (hK _ _ _ _ _ _ _ h hP hS hl)
    · exact h.elim
  case l2i =>
    have hdg := mChkI_len rfl hchk
    unfold mStep at h
    dsimp only at h
    split at h
    · exact lv_l2i hx hb hdg rfl (hK _ _ _ _ _ _ _ h hP hS hl)
    · exact h.elim
  case i2b =>
    have hdg := mChkI_len rfl hchk
    unfold mStep at h
    dsimp only at h
    split at h
    · exact lv_i2b hx hb hdg rfl (hK _ _ _ _ _ _ _ h hP hS hl)
    · exact h.elim
  case i2c =>
    have hdg := mChkI_len rfl hchk
    unfold mStep at h
    dsimp only at h
    split at h
    · exact lv_i2c hx hb hdg rfl (hK _ _ _ _ _ _ _ h hP hS hl)
    · exact h.elim
  case lcmp =>
    have hdg := mChkI_len rfl hchk
    unfold mStep at h
    dsimp only at h
    split at h
    · exact W.lcmp hx hb hdg (hK _ _ _ _ _ _ _ h hP hS hl)
    · exact h.elim
  case dup =>
    have hdg := mChkI_len rfl hchk
    unfold mStep at h
    dsimp only at h
    split at h
    · replace h := bif_t h
      obtain ⟨h0, h⟩ := h
      have h0 := Nat.eq_of_beq_eq_true h0
      exact lv_dup hx hb hdg (by rw [mTr_cat hF]; exact h0) (hK _ _ _ _ _ _ _ h hP hS hl)
    · exact h.elim
  case pop =>
    have hdg := mChkI_len rfl hchk
    unfold mStep at h
    dsimp only at h
    split at h
    · replace h := bif_t h
      obtain ⟨h0, h⟩ := h
      have h0 := Nat.eq_of_beq_eq_true h0
      exact lv_pop hx hb hdg (by rw [mTr_cat hF]; exact h0) (hK _ _ _ _ _ _ _ h hP hS hl)
    · exact h.elim
  case dup2 =>
    have hdg := mChkI_len rfl hchk
    unfold mStep at h
    dsimp only at h
    split at h
    · replace h := bif_t h
      obtain ⟨h0, h⟩ := h
      rw [Bool.and_eq_true] at h0
      have h1 := Nat.eq_of_beq_eq_true h0.1
      have h2 := Nat.eq_of_beq_eq_true h0.2
      exact lv_dup2_11 hx hb hdg (by rw [mTr_cat hF]; exact h1) (by rw [mTr_cat hF]; exact h2) (hK _ _ _ _ _ _ _ h hP hS hl)
    · exact h.elim
  case goto off =>
    have hdg := mChkI_len rfl hchk
    have hj := mChkI_jmp hchk
    unfold mStep at h
    dsimp only at h hj
    split at h
    · exact lv_goto hx hb hdg (mJmp_eq hj) (hK _ _ _ _ _ _ _ h hP hS hl)
    · exact h.elim
  case ifCond cnd off =>
    have hdg := mChkI_len rfl hchk
    have hj := mChkI_jmp hchk
    unfold mStep at h
    dsimp only at h hj
    split at h
    · obtain ⟨h2, h3⟩ := h
      cases cnd
      · exact lv_if_eq hx hb hdg (mJmp_eq hj) (fun hc => hK _ _ _ _ _ _ _ (h2 hc) hP hS hl) (fun hc => hK _ _ _ _ _ _ _ (h3 hc) hP hS hl)
      · exact lv_if_ne hx hb hdg (mJmp_eq hj) (fun hc => hK _ _ _ _ _ _ _ (h2 hc) hP hS hl) (fun hc => hK _ _ _ _ _ _ _ (h3 (not_not_intro hc)) hP hS hl)
      · exact lv_if_lt hx hb hdg (mJmp_eq hj) (fun hc => hK _ _ _ _ _ _ _ (h2 hc) hP hS hl) (fun hc => hK _ _ _ _ _ _ _ (h3 hc) hP hS hl)
      · exact lv_if_ge hx hb hdg (mJmp_eq hj) (fun hc => hK _ _ _ _ _ _ _ (h2 hc) hP hS hl) (fun hc => hK _ _ _ _ _ _ _ (h3 hc) hP hS hl)
      · exact lv_if_gt hx hb hdg (mJmp_eq hj) (fun hc => hK _ _ _ _ _ _ _ (h2 hc) hP hS hl) (fun hc => hK _ _ _ _ _ _ _ (h3 hc) hP hS hl)
      · exact lv_if_le hx hb hdg (mJmp_eq hj) (fun hc => hK _ _ _ _ _ _ _ (h2 hc) hP hS hl) (fun hc => hK _ _ _ _ _ _ _ (h3 hc) hP hS hl)
    · exact h.elim
  case if_icmp cnd off =>
    have hdg := mChkI_len rfl hchk
    have hj := mChkI_jmp hchk
    unfold mStep at h
    dsimp only at h hj
    split at h
    · obtain ⟨h2, h3⟩ := h
      cases cnd
      · exact lv_icmp_eq hx hb hdg (mJmp_eq hj) (fun hc => hK _ _ _ _ _ _ _ (h2 hc) hP hS hl) (fun hc => hK _ _ _ _ _ _ _ (h3 hc) hP hS hl)
      · exact lv_icmp_ne hx hb hdg (mJmp_eq hj) (fun hc => hK _ _ _ _ _ _ _ (h2 hc) hP hS hl) (fun hc => hK _ _ _ _ _ _ _ (h3 (not_not_intro hc)) hP hS hl)
      · exact lv_icmp_lt hx hb hdg (mJmp_eq hj) (fun hc => hK _ _ _ _ _ _ _ (h2 hc) hP hS hl) (fun hc => hK _ _ _ _ _ _ _ (h3 hc) hP hS hl)
      · exact lv_icmp_ge hx hb hdg (mJmp_eq hj) (fun hc => hK _ _ _ _ _ _ _ (h2 hc) hP hS hl) (fun hc => hK _ _ _ _ _ _ _ (h3 hc) hP hS hl)
      · exact lv_icmp_gt hx hb hdg (mJmp_eq hj) (fun hc => hK _ _ _ _ _ _ _ (h2 hc) hP hS hl) (fun hc => hK _ _ _ _ _ _ _ (h3 hc) hP hS hl)
      · exact lv_icmp_le hx hb hdg (mJmp_eq hj) (fun hc => hK _ _ _ _ _ _ _ (h2 hc) hP hS hl) (fun hc => hK _ _ _ _ _ _ _ (h3 hc) hP hS hl)
    · exact h.elim
  case ifnull off =>
    have hdg := mChkI_len rfl hchk
    have hj := mChkI_jmp hchk
    unfold mStep at h
    dsimp only at h hj
    split at h
    · rename_i q r
      replace h := bif_f h
      obtain ⟨h0, h⟩ := h
      rw [List.map_cons, mTr_ref (beq130 h0)]
      exact lv_ifnull hx hb hdg (hK _ _ _ _ _ _ _ h hP hS hl)
    · exact lv_ifnullN hx hb hdg (mJmp_eq hj) (hK _ _ _ _ _ _ _ h hP hS hl)
    · exact h.elim
  case ifnonnull off =>
    have hdg := mChkI_len rfl hchk
    have hj := mChkI_jmp hchk
    unfold mStep at h
    dsimp only at h hj
    split at h
    · rename_i q r
      replace h := bif_f h
      obtain ⟨h0, h⟩ := h
      rw [List.map_cons, mTr_ref (beq130 h0)]
      exact lv_ifnonnull hx hb hdg (mJmp_eq hj) (hK _ _ _ _ _ _ _ h hP hS hl)
    · exact lv_ifnonnullN hx hb hdg (hK _ _ _ _ _ _ _ h hP hS hl)
    · exact h.elim
  case tableswitch d lo hi offs =>
    unfold mStep at h
    dsimp only at h
    have hdg := mChkI_dec hchk
    split at h
    · rename_i x r
      split at h
      · rename_i hc
        exact lv_tableOut hx hb hdg hc (mTgt_eq h.1) (hK _ _ _ _ _ _ _ h.2 hP hS hl)
      · rename_i hc
        split at h
        · rename_i off ho
          exact lv_tableIn hx hb hdg (fun q => hc (Or.inl q)) (fun q => hc (Or.inr q)) ho (mTgt_eq h.1) (hK _ _ _ _ _ _ _ h.2 hP hS hl)
        · exact h.elim
    · exact h.elim
  case lookupswitch d ps =>
    unfold mStep at h
    dsimp only at h
    have hdg := mChkI_dec hchk
    split at h
    · exact lv_lookup hx hb hdg h.1 rfl (mTgt_eq h.2.1) (hK _ _ _ _ _ _ _ h.2.2 hP hS hl)
    · exact h.elim
  case getfield idx =>
    have hdg := mChkI_len rfl hchk
    unfold mStep at h
    dsimp only at h
    split at h
    · rename_i pl r ci k t
      obtain ⟨g1, g2⟩ := chk_get hlnk
      split at h
      · rename_i cls fs hlay
        replace h := bif_t h
        obtain ⟨h0, h⟩ := h
        obtain rfl := Nat.eq_of_beq_eq_true h0
        split at h
        · rename_i f hf
          obtain ⟨hp, q, hq, hlen, -⟩ := lay_obj hlay
          have h50 : cls ≠ 50 := by intro e; subst e; cases hq
          obtain ⟨q', hq', hk, hlink⟩ := g2 h50
          cases hq.symm.trans hq'
          rw [List.map_cons, mTr_ref (by omega)]
          exact va_get (D := G.1) (ci := cls) (C := q.1) (T := q.2.1) (N := q.2.2) hx hb hts (u_ws_G hq) hown hKK hP pl (by rw [mWs_get hp, mCell_4 hlay]) hq k hk (hts _ hlink) (fun _ h => h) (fld_at hf) hdg (hK _ _ _ _ _ _ _ h hP hS hl)
        · exact h.elim
      · rename_i i fs hlay
        obtain ⟨rfl, h⟩ := h
        have hlink := g1 rfl
        obtain ⟨h3, h4⟩ := lay_5 hlay
        have hst := hSR.2.1.1 i h3
        rw [List.map_cons, mTr_ref (by omega), h4]
        split at h
        · exact vk_getf hx hb hst.2.1 hS hown (hts _ hlink) (fun _ h => h) hdg (hK _ _ _ _ _ _ _ h hP hS hl)
        · have h6 := hK _ _ _ _ _ _ _ h hP hS hl
          rw [List.map_cons, mTr_ref (by omega)] at h6
          exact vk_getf hx hb hst.2.2.1 hS hown (hts _ hlink) (fun _ h => h) hdg h6
        · exact h.elim
      · exact h.elim
    · exact h.elim
  case putfield idx =>
    have hdg := mChkI_len rfl hchk
    unfold mStep at h
    dsimp only at h
    split at h
    · rename_i v pl r ci k t
      split at h
      · rename_i cls fs hlay
        replace h := bif_t h
        obtain ⟨h0, h⟩ := h
        obtain rfl := Nat.eq_of_beq_eq_true h0
        have hp : pl < 86 := (lay_obj hlay).1
        rw [List.map_cons, List.map_cons, mTr_ref (ne130 hp)]
        split at h
        · rename_i fv x hf
          refine mPut F hlnk hdg (st := st) (st' := (mU st.1 pl k x, st.2)) (ty := .int) (v := .int x) hlay hf (fun q _ hk => ?_) rfl rfl ?_ (fun j f hj => ?_) (fun q hq => mCell_congr (mU_ne hq) rfl) hP hS (fun H1 locs1 hP1 hS1 => hK _ _ _ _ _ _ _ h hP1 hS1 hl)
          · have hk1 : (decide ((q.2.1 k).2.2.1 = "I") && !(q.2.1 k).2.2.2) = true := hk
            simp only [Bool.and_eq_true, decide_eq_true_eq, Bool.not_eq_true'] at hk1
            exact ⟨hk1.2, by rw [hk1.1]; decide +kernel⟩
          · show mTr G (.int (mU st.1 pl k x pl k)) = _
            rw [mU_eq]
            show Value.int (upd (st.1 pl) k x k) = _
            rw [pk_us]
          · unfold mFld
            simp only [mU_eq, upd, if_neg hj]
        · rename_i fv x hf
          obtain ⟨hx01, h⟩ := h
          refine mPut F hlnk hdg (st := st) (st' := (mU st.1 pl k x, st.2)) (ty := .boolean) (v := .int x) hlay hf (fun q _ hk => ?_) (by rcases hx01 with rfl | rfl <;> rfl) (by rcases hx01 with rfl | rfl <;> rfl) ?_ (fun j f hj => ?_) (fun q hq => mCell_congr (mU_ne hq) rfl) hP hS (fun H1 locs1 hP1 hS1 => hK _ _ _ _ _ _ _ h hP1 hS1 hl)
          · have hk1 : (decide ((q.2.1 k).2.2.1 = "Z") && !(q.2.1 k).2.2.2) = true := hk
            simp only [Bool.and_eq_true, decide_eq_true_eq, Bool.not_eq_true'] at hk1
            exact ⟨hk1.2, by rw [hk1.1]; decide +kernel⟩
          · show mTr G (.int (mU st.1 pl k x pl k)) = _
            rw [mU_eq]
            show Value.int (upd (st.1 pl) k x k) = _
            rw [pk_us]
          · unfold mFld
            simp only [mU_eq, upd, if_neg hj]
        · rename_i fv x hf
          refine mPut F hlnk hdg (st := st) (st' := (st.1, mUL st.2 pl k x)) (ty := .long) (v := .long x) hlay hf (fun q _ hk => ?_) rfl rfl ?_ (fun j f hj => ?_) (fun q hq => mCell_congr rfl (mUL_ne hq)) hP hS (fun H1 locs1 hP1 hS1 => hK _ _ _ _ _ _ _ h hP1 hS1 hl)
          · have hk1 : (decide ((q.2.1 k).2.2.1 = "J") && !(q.2.1 k).2.2.2) = true := hk
            simp only [Bool.and_eq_true, decide_eq_true_eq, Bool.not_eq_true'] at hk1
            exact ⟨hk1.2, by rw [hk1.1]; decide +kernel⟩
          · show mTr G (.long (mUL st.2 pl k x pl k)) = _
            rw [mUL_eq]
            show Value.long (vp_updL (st.2 pl) k x k) = _
            rw [pk_uLs]
          · unfold mFld
            simp only [mUL_eq, vp_updL, if_neg hj]
        · rename_i fv x hf
          replace h := bif_t h
          obtain ⟨hx86, h⟩ := h
          have hx86 := blt_lt hx86
          rw [mTr_ref (ne130 hx86)]
          refine mPut F hlnk hdg (st := st) (st' := (mU st.1 pl k (nI x), st.2)) (ty := .object "SpadeRings$Gang") (v := .ref (G.2.1 x)) hlay hf (fun q _ hk => ?_) rfl rfl ?_ (fun j f hj => ?_) (fun q hq => mCell_congr (mU_ne hq) rfl) hP hS (fun H1 locs1 hP1 hS1 => hK _ _ _ _ _ _ _ h hP1 hS1 hl)
          · have hk1 : (decide ((q.2.1 k).2.2.1 = "LSpadeRings$Gang;") && !(q.2.1 k).2.2.2) = true := hk
            simp only [Bool.and_eq_true, decide_eq_true_eq, Bool.not_eq_true'] at hk1
            exact ⟨hk1.2, by rw [hk1.1]; decide +kernel⟩
          · show mTr G (.ref (mU st.1 pl k (nI x) pl k).toNatClampNeg) = _
            rw [mU_eq, pk_us, nI_clamp (Nat.lt_trans hx86 (by decide)), mTr_ref (ne130 hx86)]
          · unfold mFld
            simp only [mU_eq, upd, if_neg hj]
        · exact h.elim
      · exact h.elim
    · exact h.elim
  case getstatic idx =>
    have hdg := mChkI_len rfl hchk
    unfold mStep at h
    dsimp only at h
    split at h
    · rename_i t
      match t, hlnk with
      | [w], hlnk =>
        have hw : mWd w (.fieldLink own idx "java/lang/String" "COMPACT_STRINGS" "Z") = true := hlnk
        exact va_gets hx hb hSR.2.2.2.1 hS hown (hts _ (lw_G_in (mWd_in hw) rfl)) (fun _ h => h) hdg (hK _ _ _ _ _ _ _ h hP hS hl)
      | [], hlnk => exact absurd hlnk (by simp [mChkL])
      | _ :: _ :: _, hlnk => exact absurd hlnk (by simp [mChkL])
    · rename_i t
      match t, hlnk with
      | [w], hlnk =>
        have hw : mWd w (.fieldLink own idx "jdk/internal/util/Preconditions" "SIOOBE_FORMATTER" "Ljava/util/function/BiFunction;") = true := hlnk
        exact va_gets hx hb hSR.2.2.2.2.1 hS hown (hts _ (lw_G_in (mWd_in hw) rfl)) (fun _ h => h) hdg (hK _ _ _ _ _ _ _ h hP hS hl)
      | [], hlnk => exact absurd hlnk (by simp [mChkL])
      | _ :: _ :: _, hlnk => exact absurd hlnk (by simp [mChkL])
    · exact h.elim
  case iaload =>
    have hdg := mChkI_len rfl hchk
    unfold mStep at h
    dsimp only at h
    split at h
    · rename_i i a r
      split at h
      · rename_i n fs hlay
        have hp : a < 86 := lay_lt (by rw [hlay]; simp)
        rw [List.map_cons, List.map_cons, mTr_ref (ne130 hp)]
        exact va_iald hx hb hKK hP a 0 (by rw [mWs_get hp, mCell_0 hlay]) rfl h.1 hdg (hK _ _ _ _ _ _ _ h.2 hP hS hl)
      · rename_i n fs hlay
        obtain rfl := lay_7 hlay
        rw [List.map_cons, List.map_cons, mTr_ref (show 120 ≠ 130 by decide)]
        rcases hX with hX | ⟨hX1, hX2, hX3⟩
        · have h1 := h.1
          rw [hX] at h1
          exact absurd (Or.inr (Nat.zero_le _)) h1
        · exact va_sld hx hb hX1 hX2 hX3 hS h.1 hdg (hK _ _ _ _ _ _ _ h.2 hP hS hl)
      · exact h.elim
    · exact h.elim
  case baload =>
    have hdg := mChkI_len rfl hchk
    unfold mStep at h
    dsimp only at h
    split at h
    · rename_i i a r
      split at h
      · rename_i n fs hlay
        have hp : a < 86 := lay_lt (by rw [hlay]; simp)
        rw [List.map_cons, List.map_cons, mTr_ref (ne130 hp)]
        exact va_bald hx hb hKK hP a 1 (by rw [mWs_get hp, mCell_1 hlay]) rfl h.1 hdg (hK _ _ _ _ _ _ _ h.2 hP hS hl)
      · rename_i n fs hlay
        have hp : a < 86 := lay_lt (by rw [hlay]; simp)
        rw [List.map_cons, List.map_cons, mTr_ref (ne130 hp)]
        exact va_zald hx hb hKK hP a 2 (by rw [mWs_get hp, mCell_2 hlay]) rfl h.1 hdg (hK _ _ _ _ _ _ _ h.2 hP hS hl)
      · rename_i j fs hlay
        obtain ⟨h3, h4⟩ := lay_6 hlay
        rw [List.map_cons, List.map_cons, h4, mTr_ref (ne130b h3)]
        exact va_tb hx hb (hSR.2.1.1 j h3).2.2.2 hS h.1 rfl hdg (hK _ _ _ _ _ _ _ h.2 hP hS hl)
      · exact h.elim
    · exact h.elim
  case aaload =>
    have hdg := mChkI_len rfl hchk
    unfold mStep at h
    dsimp only at h
    split at h
    · rename_i i a r
      split at h
      · rename_i n fs hlay
        obtain ⟨h1, h⟩ := h
        split at h
        · rename_i f hf
          have hp : a < 86 := lay_lt (by rw [hlay]; simp)
          rw [List.map_cons, List.map_cons, mTr_ref (ne130 hp)]
          have hf2 : f.2 ≠ 130 := by
            have h0 : ∀ q, q < 86 → ∀ f ∈ (lay q).2.2, f.2 < 86 := by decide +kernel
            have h9 := h0 a hp f (by rw [hlay]; exact List.mem_of_getElem? hf)
            omega
          have h6 := hK _ _ _ _ _ _ _ h hP hS hl
          rw [List.map_cons, mTr_ref hf2] at h6
          refine va_aldq hx hb hKK hP a 3 (by rw [mWs_get hp, mCell_3 hlay]) rfl h1 hdg ?_
          simp only [hf, Option.map_some]
          exact h6
        · exact h.elim
      · exact h.elim
    · exact h.elim
  case iastore =>
    have hdg := mChkI_len rfl hchk
    unfold mStep at h
    dsimp only at h
    split at h
    · rename_i x i a r
      split at h
      · rename_i n fs hlay
        have hp : a < 86 := lay_lt (by rw [hlay]; simp)
        rw [List.map_cons, List.map_cons, List.map_cons, mTr_ref (ne130 hp)]
        have hset := mWs_set (G := G) (st := st) (st' := (mU st.1 a i.toNatClampNeg x, st.2)) hp (mCell_0 hlay) (fun q hq => mCell_congr (mU_ne hq) rfl)
        simp only [mU_eq] at hset
        refine va_iast hx hb hKK hP hD hS a 0 (by rw [mWs_get hp, mCell_0 hlay]) rfl h.1 hdg (fun H1 locs1 h1 _ h3 => ?_)
        rw [hset] at h1
        exact hK _ _ _ _ _ _ _ h.2 h1 h3 hl
      · exact h.elim
    · exact h.elim
  case bastore =>
    have hdg := mChkI_len rfl hchk
    unfold mStep at h
    dsimp only at h
    split at h
    · rename_i x i a r
      split at h
      · rename_i n fs hlay
        have hp : a < 86 := lay_lt (by rw [hlay]; simp)
        rw [List.map_cons, List.map_cons, List.map_cons, mTr_ref (ne130 hp)]
        have hset := mWs_set (G := G) (st := st) (st' := (mU st.1 a i.toNatClampNeg (vp_nar .byte x), st.2)) hp (mCell_1 hlay) (fun q hq => mCell_congr (mU_ne hq) rfl)
        simp only [mU_eq] at hset
        refine va_bast hx hb hKK hP hD hS a 1 (by rw [mWs_get hp, mCell_1 hlay]) rfl h.1 hdg (fun H1 locs1 h1 _ h3 => ?_)
        rw [hset] at h1
        exact hK _ _ _ _ _ _ _ h.2 h1 h3 hl
      · rename_i n fs hlay
        have hp : a < 86 := lay_lt (by rw [hlay]; simp)
        rw [List.map_cons, List.map_cons, List.map_cons, mTr_ref (ne130 hp)]
        have hset := mWs_set (G := G) (st := st) (st' := (mU st.1 a i.toNatClampNeg (vp_nar .boolean x), st.2)) hp (mCell_2 hlay) (fun q hq => mCell_congr (mU_ne hq) rfl)
        simp only [mU_eq] at hset
        refine va_zast hx hb hKK hP hD hS a 2 (by rw [mWs_get hp, mCell_2 hlay]) rfl h.1 hdg (fun H1 locs1 h1 _ h3 => ?_)
        rw [hset] at h1
        exact hK _ _ _ _ _ _ _ h.2 h1 h3 hl
      · exact h.elim
    · exact h.elim
  case arraylength =>
    have hdg := mChkI_len rfl hchk
    unfold mStep at h
    dsimp only at h
    split at h
    · rename_i a r
      split at h
      · rename_i n fs hlay
        have hp : a < 86 := lay_lt (by rw [hlay]; simp)
        rw [List.map_cons, mTr_ref (ne130 hp)]
        exact va_alen (x := (n, .inl (st.1 a))) hx hb hKK hP a 0 (by rw [mWs_get hp, mCell_0 hlay]) rfl rfl hdg (hK _ _ _ _ _ _ _ h hP hS hl)
      · rename_i n fs hlay
        have hp : a < 86 := lay_lt (by rw [hlay]; simp)
        rw [List.map_cons, mTr_ref (ne130 hp)]
        exact va_alen (x := (n, .inl (st.1 a))) hx hb hKK hP a 1 (by rw [mWs_get hp, mCell_1 hlay]) rfl rfl hdg (hK _ _ _ _ _ _ _ h hP hS hl)
      · rename_i n fs hlay
        have hp : a < 86 := lay_lt (by rw [hlay]; simp)
        rw [List.map_cons, mTr_ref (ne130 hp)]
        exact va_alen (x := (n, .inl (st.1 a))) hx hb hKK hP a 2 (by rw [mWs_get hp, mCell_2 hlay]) rfl rfl hdg (hK _ _ _ _ _ _ _ h hP hS hl)
      · rename_i n fs hlay
        have hp : a < 86 := lay_lt (by rw [hlay]; simp)
        rw [List.map_cons, mTr_ref (ne130 hp)]
        exact va_alen (x := (n, .inr (.inr (.inr (.inr (fun j => (fs[j]?).map (fun f => G.2.1 f.2))))))) hx hb hKK hP a 3 (by rw [mWs_get hp, mCell_3 hlay]) rfl rfl hdg (hK _ _ _ _ _ _ _ h hP hS hl)
      · rename_i j fs hlay
        obtain ⟨h3, h4⟩ := lay_6 hlay
        rw [List.map_cons, h4, mTr_ref (ne130b h3)]
        exact va_tlen hx hb (hSR.2.1.1 j h3).2.2.2 hS rfl hdg (hK _ _ _ _ _ _ _ h hP hS hl)
      · rename_i n fs hlay
        obtain rfl := lay_7 hlay
        rw [List.map_cons, mTr_ref (show 120 ≠ 130 by decide)]
        rcases hX with hX | ⟨hX1, hX2, hX3⟩
        · exact absurd h.1 (by omega)
        · exact va_slen hx hb hX1 hX2 hX3 hS hdg (hK _ _ _ _ _ _ _ h.2 hP hS hl)
      · exact h.elim
    · exact h.elim
  case invokestatic idx =>
    have hdg := mChkI_len rfl hchk
    unfold mStep at h
    dsimp only at h
    split at h
    · rename_i z0 n t
      obtain ⟨h1, h2, v, st1, h3, h4⟩ := h
      exact mS_callS F hC hR hcs hlnk hl.1.1 hdg h1 h2 h3 hP hS (fun H1 locs1 hP1 hS1 => hK _ _ _ _ _ _ _ h4 hP1 hS1 hl)
    · exact h.elim
  case invokevirtual idx =>
    have hdg := mChkI_len rfl hchk
    unfold mStep at h
    dsimp only at h
    split at h
    · rename_i z0 n ci t
      obtain ⟨h1, h2, h3, v, st1, h4, h5⟩ := h
      exact mS_callV F hC hR hcs hlnk hl.1.1 hdg h1 h2 h3 h4 hP hS (fun H1 locs1 hP1 hS1 => hK _ _ _ _ _ _ _ h5 hP1 hS1 hl)
    · exact h.elim
  case ireturn =>
    have hdg := mChkI_len rfl hchk
    unfold mStep at h
    dsimp only at h
    split at h
    · exact hret _ _ _ _ _ _ h.2 h.1 hP hS hdg
    · exact h.elim
  case lreturn =>
    have hdg := mChkI_len rfl hchk
    unfold mStep at h
    dsimp only at h
    split at h
    · exact hret _ _ _ _ _ _ h.2 h.1 hP hS hdg
    · exact h.elim
  case areturn =>
    have hdg := mChkI_len rfl hchk
    unfold mStep at h
    dsimp only at h
    split at h
    · exact hret _ _ _ _ _ _ h.2 h.1 hP hS hdg
    · exact hret _ _ _ _ _ _ h.2 h.1 hP hS hdg
    · exact h.elim
  case return_ =>
    have hdg := mChkI_len rfl hchk
    unfold mStep at h
    dsimp only at h
    split at h
    · exact hret _ _ _ _ _ _ h.2 h.1 hP hS hdg
    · exact h.elim
  all_goals exact h.elim
end MROW
