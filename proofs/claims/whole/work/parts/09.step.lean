/-! FROM THE SMALL MACHINE TO THE LARGE ONE, 3: one step -/
theorem mCell_4 {G : mG} {st : mSt} {p c : Nat} {fs : List (Nat × Nat)} (h : lay p = (4, c, fs)) : mCell G st p = .inr (c, (List.range fs.length).map (fun k => mTr G (mFld st p k (fs.getD k (0, 0))))) := by
  unfold mCell
  rw [h]
  rfl
theorem mCell_0 {G : mG} {st : mSt} {p n : Nat} {fs : List (Nat × Nat)} (h : lay p = (0, n, fs)) : mCell G st p = .inl (G.2.2.1 0, n, .inl (st.1 p)) := by
  unfold mCell
  rw [h]
  rfl
theorem mCell_1 {G : mG} {st : mSt} {p n : Nat} {fs : List (Nat × Nat)} (h : lay p = (1, n, fs)) : mCell G st p = .inl (G.2.2.1 1, n, .inl (st.1 p)) := by
  unfold mCell
  rw [h]
  rfl
theorem mCell_2 {G : mG} {st : mSt} {p n : Nat} {fs : List (Nat × Nat)} (h : lay p = (2, n, fs)) : mCell G st p = .inl (G.2.2.1 2, n, .inl (st.1 p)) := by
  unfold mCell
  rw [h]
  rfl
theorem mCell_3 {G : mG} {st : mSt} {p n : Nat} {fs : List (Nat × Nat)} (h : lay p = (3, n, fs)) : mCell G st p = .inl (G.2.2.1 3, n, .inr (.inr (.inr (.inr (fun j => (fs[j]?).map (fun f => G.2.1 f.2)))))) := by
  unfold mCell
  rw [h]
  rfl
section MSTEP
variable {p : Program} {l : Launch} {e : Env} {R : Room} {s : State} {m : MethodId} {args : Array Value} {below : List Frame} {meth : Method} {c : Code} {H : Heap} {locs : List Loc} {cells slots : Nat} {Qw : State → Prop}
variable {G : mG} {cc : ByteArray} {own : String} {nL : Nat} {S : Nat × (Nat → Int32)}
def mFix (p : Program) (s : State) (m : MethodId) (args : Array Value) (c : Code) (cc : ByteArray) (nL : Nat) (own : String) (G : mG) (S : Nat × (Nat → Int32)) : Prop :=
  p.tables.exec = Jvm.exec ∧ c.code = cc ∧ c.maxLocals = nL ∧ s.vm.findClass own = some m.cls ∧ (∀ w ∈ lw_G, w.before args s = true) ∧ va_K G.1 vwCl (mTys G) s ∧ mSR G s ∧
  (S.1 = 0 ∨ (va_X (G.2.1 120) (S.1 - 1) S.2 s s.heap ∧ G.2.1 120 < s.heap.size ∧ ¬ mA G (G.2.1 120)))
theorem mS_run {v : Option Value} {st1 : mSt} {rest st0 : List Value} {pc : Nat} {ls : Array Slot} {a : Array Value} (hr : va_Run p l e R s m args below meth c H locs cells slots 0 0 (F0 m pc ls st0) rest (mQc G v st1 a) (mA G)) (hS : va_S (mA G) s.heap H locs)
    (kk : ∀ (H1 : Heap) (locs1 : List Loc), va_P G.1 vwCl (mWs G st1) H1 → va_S (mA G) s.heap H1 locs1 → W p l e R s m args below meth c H1 locs1 cells slots Qw (F0 m (pc + 3) ls ((v.map (mTr G)).toList ++ rest))) : W p l e R s m args below meth c H locs cells slots Qw (F0 m pc ls st0) := by
  intro T hT X
  obtain ⟨v', st₀, t, T', L, h0, X', hL, e1, e2, ⟨hv, hB, hz, hk⟩, st⟩ := hr T hT X
  cases hv
  rw [h0] at hz hk
  obtain ⟨t2, a1, b1⟩ := kk T'.heap (locs ++ L) (by rw [e1]; exact hB.1)
    ⟨Nat.le_trans hS.1 (by rw [e1]; exact hz), fun q h1 h2 => by rw [e1, hk q (Nat.lt_of_lt_of_le h1 hS.1) h2]; exact hS.2.1 q h1 h2, fun q hq => by
      rcases List.mem_append.mp hq with h | h
      · exact hS.2.2 q h
      · exact hL q h⟩ T' rfl X'
  exact ⟨t2, st t2 a1, b1⟩
/-- what a call needs to be met -/
def mCs (l : Launch) (G : mG) (d : Nat) (C : Nat → List Value → mSt → Option Value → mSt → Prop) : Prop := ∀ (z : Nat) (q : mM), mT[z]? = some q → ∀ (As : List Value) (st : mSt) (v : Option Value) (st1 : mSt), C z As st v st1 → Met l q.1 (.code q.1 q.2.1 q.2.2.1 q.2.2.2.1 :: lw_G) (mRm d) (va_Pc (As.map (mTr G)) (mWB G st)) (mQc G v st1) 0 0 (mA G)
theorem mS_callS {C : Nat → List Value → mSt → Option Value → mSt → Prop} {d : Nat} (F : mFix p s m args c cc nL own G S) (hC : mCs l G d C) (hR : d + 1 ≤ R.frames ∧ 59 + 64 * d ≤ R.locals) (hcs : cells ≤ R.cells ∧ slots ≤ R.slots)
    {idx len z n : Nat} {t : List Nat} {cst : Int} (hchk : mChkL mT own (.invokestatic idx, len, z :: n :: t, cst) = true) {pc : Nat} {lsA : Array Slot} (hsz : lsA.size = nL) (hdg : decode cc pc = .ok (.invokestatic idx, 3)) {sk : List Value} {st : mSt} {v : Option Value} {st1 : mSt}
    (hn : n ≤ sk.length) (hcat : mCat (sk.drop n) ≤ 8) (hz : C z (sk.take n).reverse st v st1) (hP : va_P G.1 vwCl (mWs G st) H) (hS : va_S (mA G) s.heap H locs)
    (kk : ∀ (H1 : Heap) (locs1 : List Loc), va_P G.1 vwCl (mWs G st1) H1 → va_S (mA G) s.heap H1 locs1 → W p l e R s m args below meth c H1 locs1 cells slots Qw (F0 m (pc + 3) lsA ((v.toList ++ sk.drop n).map (mTr G)))) : W p l e R s m args below meth c H locs cells slots Qw (F0 m pc lsA (sk.map (mTr G))) := by
  obtain ⟨hx, hb, hml, hown, hts, hK, hSR, -⟩ := F
  obtain ⟨q, hq, hnp, hlink, hstat⟩ := chk_callS hchk
  obtain ⟨k1, k2, k3, k4, k5, k6, k7⟩ := chk_M (List.mem_of_getElem? hq)
  have hF := hSR.2.2.2.2.2
  have hM := hC z q hq _ st v st1 hz
  have hws : ∀ w ∈ Cond.code q.1 q.2.1 q.2.2.1 q.2.2.2.1 :: lw_G, ∀ (a' : Array Value) (U : State), s.WarmedH U.vm → w.before a' U = true := by
    intro w hw a' U hW
    have hw' : w ∈ lw_G := by
      rcases List.mem_cons.mp hw with h | h
      · rw [h]; exact k1
      · exact h
    exact lw_warm (List.mem_filter.mp hw').2 hW (hts w hw')
  have hPre : ∀ U : State, U.heap = H → s.WarmedH U.vm → va_Pc ((sk.take n).reverse.map (mTr G)) (mWB G st) ((sk.take n).reverse.map (mTr G)).toArray U := fun U hU hW =>
    ⟨rfl, by rw [hU]; exact hP, va_K.moved hW.alike hK, mSR_go hU hW hS hSR⟩
  have hlen : ((sk.take n).reverse.map (mTr G)).length = n := by
    rw [List.length_map, List.length_reverse, List.length_take]; omega
  have hst : sk.map (mTr G) = ((sk.take n).reverse.map (mTr G)).reverse ++ (sk.drop n).map (mTr G) := by
    rw [← List.map_reverse, List.reverse_reverse, ← List.map_append, List.take_append_drop]
  have hroom : (((sk.drop n).map (mTr G)).map fun v => v.category).sum ≤ 8 := by rw [mTr_cats hF]; exact hcat
  have hsig : ∀ sig, parseMethodDescriptor q.1.desc = some sig → n = sig.parameters.length := by
    intro sig h
    rw [h] at k3
    exact hnp.symm.trans (Option.some.inj k3).symm
  have fin : va_Run p l e R s m args below meth c H locs cells slots 0 0 (F0 m pc lsA (sk.map (mTr G))) ((sk.drop n).map (mTr G)) (mQc G v st1 ((sk.take n).reverse.map (mTr G)).toArray) (mA G) := by
    rcases hlink with hl | hl
    · exact va_runS (Ts := lw_G) ⟨hx, hb, hml, hown, hts⟩ hM ⟨⟨rfl, rfl, hR.1, by show 8 + (q.2.2.1 + 11) + 64 * d ≤ R.locals; omega, hws, List.mem_cons_self, hts _ k1, hts _ k2, ⟨k5, k6⟩, hsig, hts _ hl⟩, hts _ hstat⟩ ⟨mPc_blind, hPre⟩ rfl hlen hsz hst (lv_room hroom) hdg hcs
    · exact va_runSN (Ts := lw_G) ⟨hx, hb, hml, hown, hts⟩ hM ⟨⟨⟨rfl, rfl, hR.1, by show 8 + (q.2.2.1 + 11) + 64 * d ≤ R.locals; omega, hws, List.mem_cons_self⟩, hts _ k1, hts _ k2, ⟨k5, k6⟩, hsig, hts _ hl⟩, hts _ hstat, trivial⟩ ⟨mPc_blind, hPre⟩ rfl hlen hsz hst (lv_room hroom) hdg hcs
  refine mS_run fin hS (fun H1 locs1 hP1 hS1 => ?_)
  have h9 := kk H1 locs1 hP1 hS1
  rw [List.map_append] at h9
  cases v <;> exact h9
theorem mRecv_at {G : mG} {st : mSt} {ci : Nat} {pl : Nat} {C : String} (hrc : mRecv ci (.ref pl)) (hC : if ci = 50 then C = "java/lang/String" else ∃ r : vw_C, vwCl[ci]? = some r ∧ C = r.1) (hK : va_K G.1 vwCl (mTys G) s) (hSR : mSR G s) (hP : va_P G.1 vwCl (mWs G st) H) (hS : va_S (mA G) s.heap H locs) : pl ≠ 130 ∧ ∃ cell : Cell, H[G.2.1 pl]? = some cell ∧ cell.vm.isStatics = false ∧ s.vm.findClass C = some cell.cls := by
  rcases hrc with ⟨h1, h2⟩ | ⟨h1, h2⟩
  · have hp : pl < 86 := lay_lt (by rw [h1]; decide)
    have hci : ci ≠ 50 := by
      intro h
      have hl : lay pl = (4, 50, (lay pl).2.2) := by rw [← h1, ← h, ← h2]
      obtain ⟨-, q, hq, -⟩ := lay_obj hl
      cases hq
    rw [if_neg hci] at hC
    obtain ⟨r, hr, rfl⟩ := hC
    have hcell : mCell G st pl = .inr (ci, (List.range (lay pl).2.2.length).map (fun k => mTr G (mFld st pl k ((lay pl).2.2.getD k (0, 0))))) := by
      have hl : lay pl = (4, ci, (lay pl).2.2) := by rw [← h1, ← h2]
      exact mCell_4 hl
    exact ⟨by omega, va_recv hK hP hr (q0 := pl) (by rw [mWs_get hp, hcell])⟩
  · subst h2
    rw [if_pos rfl] at hC
    have hl : lay pl = (5, (lay pl).2.1, (lay pl).2.2) := by rw [← h1]
    obtain ⟨h3, h4⟩ := lay_5 hl
    have h9 := vk_recv hSR.2.1 h3 hS
    simp only [← h4] at h9
    rw [hC]
    exact ⟨by omega, h9⟩
theorem mS_callV {C : Nat → List Value → mSt → Option Value → mSt → Prop} {d : Nat} (F : mFix p s m args c cc nL own G S) (hC : mCs l G d C) (hR : d + 1 ≤ R.frames ∧ 59 + 64 * d ≤ R.locals) (hcs : cells ≤ R.cells ∧ slots ≤ R.slots)
    {idx len z n ci : Nat} {t : List Nat} {cst : Int} (hchk : mChkL mT own (.invokevirtual idx, len, z :: n :: ci :: t, cst) = true) {pc : Nat} {lsA : Array Slot} (hsz : lsA.size = nL) (hdg : decode cc pc = .ok (.invokevirtual idx, 3)) {sk : List Value} {st : mSt} {v : Option Value} {st1 : mSt}
    (hn : n + 1 ≤ sk.length) (hcat : mCat (sk.drop (n + 1)) ≤ 8) (hrc : mRecv ci (sk.getD n .null)) (hz : C z (sk.take (n + 1)).reverse st v st1) (hP : va_P G.1 vwCl (mWs G st) H) (hS : va_S (mA G) s.heap H locs)
    (kk : ∀ (H1 : Heap) (locs1 : List Loc), va_P G.1 vwCl (mWs G st1) H1 → va_S (mA G) s.heap H1 locs1 → W p l e R s m args below meth c H1 locs1 cells slots Qw (F0 m (pc + 3) lsA ((v.toList ++ sk.drop (n + 1)).map (mTr G)))) : W p l e R s m args below meth c H locs cells slots Qw (F0 m pc lsA (sk.map (mTr G))) := by
  obtain ⟨hx, hb, hml, hown, hts, hK, hSR, -⟩ := F
  obtain ⟨q, hq, hnp, hlink, hins, hsel, hcl⟩ := chk_callV hchk
  obtain ⟨k1, k2, k3, k4, k5, k6, k7⟩ := chk_M (List.mem_of_getElem? hq)
  have hF := hSR.2.2.2.2.2
  have hM := hC z q hq _ st v st1 hz
  have hws : ∀ w ∈ Cond.code q.1 q.2.1 q.2.2.1 q.2.2.2.1 :: lw_G, ∀ (a' : Array Value) (U : State), s.WarmedH U.vm → w.before a' U = true := by
    intro w hw a' U hW
    have hw' : w ∈ lw_G := by
      rcases List.mem_cons.mp hw with h | h
      · rw [h]; exact k1
      · exact h
    exact lw_warm (List.mem_filter.mp hw').2 hW (hts w hw')
  have hlt : n < sk.length := hn
  obtain ⟨pl, hpl⟩ : ∃ pl, sk.getD n .null = .ref pl := by
    cases hv : sk.getD n .null with
    | ref pl => exact ⟨pl, rfl⟩
    | _ => rw [hv] at hrc; exact hrc.elim
  rw [hpl] at hrc
  obtain ⟨h130, hrecv⟩ := mRecv_at hrc hcl hK hSR hP hS
  have hget : sk[n] = .ref pl := by
    rw [List.getD_eq_getElem?_getD, List.getElem?_eq_getElem hlt] at hpl
    exact hpl
  have htk : (sk.take (n + 1)).reverse = .ref pl :: (sk.take n).reverse := by
    rw [← List.take_append_getElem hlt, List.reverse_append, hget]
    rfl
  have harg : (sk.take (n + 1)).reverse.map (mTr G) = Value.ref (G.2.1 pl) :: (sk.take n).reverse.map (mTr G) := by
    rw [htk, List.map_cons, mTr_ref h130]
  have hPre : ∀ U : State, U.heap = H → s.WarmedH U.vm → va_Pc ((sk.take (n + 1)).reverse.map (mTr G)) (mWB G st) (Value.ref (G.2.1 pl) :: (sk.take n).reverse.map (mTr G)).toArray U := fun U hU hW =>
    ⟨by rw [harg], by rw [hU]; exact hP, va_K.moved hW.alike hK, mSR_go hU hW hS hSR⟩
  have hlen : ((sk.take n).reverse.map (mTr G)).length = n := by
    rw [List.length_map, List.length_reverse, List.length_take]; omega
  have hst : sk.map (mTr G) = ((sk.take n).reverse.map (mTr G)).reverse ++ .ref (G.2.1 pl) :: (sk.drop (n + 1)).map (mTr G) := by
    have h1 : sk = sk.take n ++ sk.drop n := (List.take_append_drop n sk).symm
    have h2 : sk.drop n = .ref pl :: sk.drop (n + 1) := by
      rw [List.drop_eq_getElem_cons hlt, hget]
    rw [h2] at h1
    have h3 := congrArg (List.map (mTr G)) h1
    rw [List.map_append, List.map_cons, mTr_ref h130] at h3
    rw [← List.map_reverse, List.reverse_reverse]
    exact h3
  have hroom : (((sk.drop (n + 1)).map (mTr G)).map fun v => v.category).sum ≤ 8 := by rw [mTr_cats hF]; exact hcat
  have hsig : ∀ sig, parseMethodDescriptor q.1.desc = some sig → n = sig.parameters.length := by
    intro sig h
    rw [h] at k3
    exact hnp.symm.trans (Option.some.inj k3).symm
  have fin : va_Run p l e R s m args below meth c H locs cells slots 0 0 (F0 m pc lsA (sk.map (mTr G))) ((sk.drop (n + 1)).map (mTr G)) (mQc G v st1 (Value.ref (G.2.1 pl) :: (sk.take n).reverse.map (mTr G)).toArray) (mA G) :=
    va_runV (Ts := lw_G) (C := q.1.cls) ⟨hx, hb, hml, hown, hts⟩ hM ⟨⟨rfl, rfl, hR.1, by show 8 + (q.2.2.1 + 11) + 64 * d ≤ R.locals; omega, hws, List.mem_cons_self, hts _ k1, hts _ k2, ⟨k5, k6⟩, hsig, hts _ hlink⟩, hts _ hins, hts _ hsel⟩ ⟨mPc_blind, hrecv, hPre⟩ rfl hlen hsz hst (lv_room hroom) hdg hcs
  refine mS_run fin hS (fun H1 locs1 hP1 hS1 => ?_)
  have h9 := kk H1 locs1 hP1 hS1
  rw [List.map_append] at h9
  cases v <;> exact h9
end MSTEP
