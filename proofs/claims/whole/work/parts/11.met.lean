/-! FROM THE SMALL MACHINE TO THE LARGE ONE, 5: runs, methods -/
section MMET
variable {p : Program} {l : Launch} {e : Env} {R : Room} {s : State} {m : MethodId} {args : Array Value} {below : List Frame} {meth : Method} {c : Code} {cells slots : Nat} {Qw : State → Prop}
variable {G : mG} {cc : ByteArray} {own : String} {nL : Nat} {S : Nat × (Nat → Int32)}
theorem mOk_sound {C : Nat → List Value → mSt → Option Value → mSt → Prop} {d : Nat} (F : mFix p s m args c cc nL own G S) (hC : mCs l G d C) (hR : d + 1 ≤ R.frames ∧ 59 + 64 * d ≤ R.locals) (hcs : cells ≤ R.cells ∧ slots ≤ R.slots)
    {rt : Option FieldType} {Q : Option Value → mSt → Prop} (hret : mRg p l e R s m args below meth c cells slots Qw G cc rt Q) {P : List (Nat × mE)} (hchk : mChk mT own cc P = true) :
    ∀ n, mKg p l e R s m args below meth c cells slots Qw G nL (mOk C S (mAtL P) rt Q n) := by
  intro n
  induction n with
  | zero => intro pc ls sk st H locs lsA h; exact h.elim
  | succ n ih =>
    intro pc ls sk st H locs lsA h hP hS hl
    have h' : match mAtL P pc with | none => False | some e => mStep C S rt Q (mOk C S (mAtL P) rt Q n) e pc ls sk st := h
    cases hp : mAtL P pc with
    | none => rw [hp] at h'; exact h'.elim
    | some e0 =>
      rw [hp] at h'
      have hin := List.all_eq_true.mp hchk _ (mAtL_mem hp)
      rw [Bool.and_eq_true] at hin
      exact mStep_sound F hC hR hcs hret ih hin.1 hin.2 h' hP hS hl
end MMET
/-- Met.ofW for methods of classes of which some methods are run by entries of the machine -/
theorem mMet_ofW {l : Launch} {y : MethodName} {ws ws' : List Cond} {rm : Room} {Pc : Array Value → State → Prop} {Qc : Array Value → State → Outcome → State → Prop} {mc ms : Nat} {free : Addr → Prop} {cc : ByteArray} {maxL : Nat} {ret : Option FieldType}
    (hy : plainFor y = true) (hw : ws = Cond.code y cc maxL ret :: ws')
    (body : ∀ p e s m args below meth c s₁, BodyLoose p l y (headSpec ws rm) cc maxL ret e s m args below meth c s₁ → c.maxLocals = maxL → Pc args s →
      W p l e (headSpec ws rm).room s m args below meth c s.heap [] 0 0 (MQ below Qc args s mc ms free) (entryFrame m args maxL)) : Met l y ws rm Pc Qc mc ms free := by
  refine MetFree.of_bodySF (code := cc) (maxLocals := maxL) (ret := ret) hy ?_ ?_
  · intro args s m h hn
    obtain ⟨meth, c, h1, h2, h3, h4, h5, h6, -, -⟩ := Cond.code_spec hn (atoms_spec (ws := ws) h _ (by rw [hw]; exact List.mem_cons_self))
    exact ⟨meth, c, h1, h2, h3, h4, h5, h6⟩
  · intro p e s m args below meth c s₁ B hml hP _
    have hh0 : s₁.heap = s.heap := by rw [B.state]; rfl
    obtain ⟨t, a1, o, b1, b2, b3⟩ := body p e s m args below meth c s₁ B hml hP s₁ hh0 (Stand.of_body B)
    exact ⟨t, o, a1, b1, b2, ⟨b3.1, b3.2⟩⟩
theorem mSound (l : Launch) (G : mG) : ∀ d, mCs l G d (mMC mT d) := by
  intro d
  induction d with
  | zero => intro z q hq As st v st1 h; exact h.elim
  | succ d ih =>
    intro z q hq As st v st1 h
    obtain ⟨q', hq', hlen, n, hn⟩ := h
    cases hq.symm.trans hq'
    have hqm := List.mem_of_getElem? hq
    obtain ⟨k1, k2, k3, k4, k5, k6, k7⟩ := chk_M hqm
    refine mMet_ofW (cc := q.2.1) (maxL := q.2.2.1) (ret := q.2.2.2.1) k4 rfl ?_
    intro p e s m args below meth c s₁ B hml hv
    obtain ⟨rfl, hP, hK, hSR⟩ := hv
    have hts := atoms_spec (ws := Cond.code q.1 q.2.1 q.2.2.1 q.2.2.2.1 :: lw_G) B.pre
    have hF := hSR.2.2.2.2.2
    have F : mFix p s m (As.map (mTr G)).toArray c q.2.1 q.2.2.1 q.1.cls G (0, fun _ => 0) := ⟨B.exec, B.bytes, hml, findClass_of_methodNamed B.named, fun w hw => hts w (List.mem_cons_of_mem _ hw), hK, hSR, Or.inl rfl⟩
    have hS : va_S (mA G) s.heap s.heap [] := va_S.rf
    have hle : (lg_sl (As.map (mTr G))).length ≤ q.2.2.1 := by rw [mArgs_len hF]; exact hlen
    have hl0 := lv_entry (As.map (mTr G)) (n := q.2.2.1) hle
    rw [lg_entry_eq]
    generalize (lg_sl (As.map (mTr G)) ++ List.replicate (q.2.2.1 - (lg_sl (As.map (mTr G))).length) Slot.unset).toArray = lsA at hl0 ⊢
    have hl : mLo G lsA q.2.2.1 (mEntry As q.2.2.1) := by
      refine ⟨?_, ?_⟩
      · show lv_has lsA _ (mPrs G 0 (mArgs As ++ List.replicate _ none))
        rw [mPrs_entry hF]
        exact hl0
      · unfold mEntry
        rw [List.length_append, List.length_replicate]
        omega
    have hret : mRg p l e (mRm (d + 1)) s m (As.map (mTr G)).toArray below meth c 0 0 (MQ below (mQc G v st1) (As.map (mTr G)).toArray s 0 0 (mA G)) G q.2.1 q.2.2.2.1 (fun r s => r = v ∧ s = st1) := by
      intro v' st' H locs pc lsA' hQ hrt hP' hS' hdg
      obtain ⟨rfl, rfl⟩ := hQ
      have hpost : ∀ t : State, t.heap = H → s.WarmedH t.vm → mQc G v' st' (As.map (mTr G)).toArray s (.returned (v'.map (mTr G))) t := fun t ht hW =>
        ⟨rfl, ⟨by rw [ht]; exact hP', va_K.moved hW.alike hK, mSR_go ht hW hS' hSR⟩, hS'.F ht⟩
      match v', hrt, hdg, hpost with
      | none, hrt, hdg, hpost => exact W.vret B.exec B.bytes (B.returns.trans hrt) hpost hS'.2.2 hdg B.notSynchronized
      | some (.int x), hrt, hdg, hpost =>
        obtain ⟨ty, h1, h2⟩ := hrt
        exact W.zret B.exec B.bytes (B.returns.trans h1) h2 hpost hS'.2.2 hdg B.notSynchronized
      | some (.long x), hrt, hdg, hpost => exact W.lret B.exec B.bytes (B.returns.trans hrt) hpost hS'.2.2 hdg B.notSynchronized
      | some (.ref a), hrt, hdg, hpost =>
        obtain ⟨⟨nm, h1⟩, h2⟩ := hrt
        have e1 : mTr G (.ref a) = .ref (G.2.1 a) := mTr_ref h2
        have hpost' : ∀ t : State, t.heap = H → s.WarmedH t.vm → mQc G (some (.ref a)) st' (As.map (mTr G)).toArray s (.returned (some (.ref (G.2.1 a)))) t := fun t ht hW => by
          have := hpost t ht hW
          rw [Option.map_some, e1] at this
          exact this
        show W p l e (mRm (d + 1)) s m _ below meth c H locs 0 0 _ (F0 m pc lsA' [mTr G (.ref a)])
        rw [e1]
        exact W.aret B.exec B.bytes (B.returns.trans h1) (Or.inl ⟨nm, rfl⟩) (Or.inr ⟨_, rfl⟩) hpost' hS'.2.2 hdg B.notSynchronized
      | some .null, hrt, hdg, hpost =>
        obtain ⟨nm, h1⟩ := hrt
        exact W.aret B.exec B.bytes (B.returns.trans h1) (Or.inl ⟨nm, rfl⟩) (Or.inl rfl) hpost hS'.2.2 hdg B.notSynchronized
    exact mOk_sound F ih ⟨Nat.le_refl _, by show 59 + 64 * d ≤ 64 * (d + 1); omega⟩ ⟨Nat.le_refl _, Nat.le_refl _⟩ hret (ckT q hqm) n 0 _ [] st s.heap [] lsA hn hP hS hl
