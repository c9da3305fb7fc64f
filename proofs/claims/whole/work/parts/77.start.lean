/-! THE LAW, from its entry -/
def R_law : String := "SpadeRingsLaw"
def lw_P (b : Addr) (xs : List Int32) (args : Array Value) (s : State) : Prop := args = #[.ref b] ∧ s.IntsAt b xs ∧ xs.length ≤ 3072 ∧ (Jvm.Cond.and given_1 narrow_1).before args s = true
def lw_Q (_ : Array Value) (s : State) (o : Outcome) (t : State) : Prop := o = .returned (some (.int 1)) ∧ Framed s o t [] 600000 7302250
def lw_Z (below : List Frame) (a : Array Value) (s : State) : State → Prop := fun t => ∃ o, t.status = .running ∧ Ended t below o ∧ lw_Q a s o t
/-- the law's own end, with 1 on the stack, nothing written that was there before, its room as the claim has it -/
theorem lw_ret {p : Program} {l : Launch} {e : Env} {s : State} {m : MethodId} {below : List Frame} {meth : Method} {c : Code} {b : Nat} (hx : p.tables.exec = Jvm.exec) (hb : c.code = code) (hr : meth.sig.returnType = ret) (hlocks : meth.locks = false) {pc : Nat} {H : Heap} {ls : Array Slot} (hdg : decode code pc = .ok (.ireturn, 1)) : W p l e room_1 s m #[Value.ref b] below meth c H [] 600000 7302250 (lw_Z below #[Value.ref b] s) (F0 m pc ls [.int 1]) := by
  intro T hT X
  obtain ⟨fs, hret, hrun, hended, hW, hframe⟩ := X.leave (v := some (.int 1)) (hlocks := hlocks) (fun h => by rw [hr] at h; cases h)
  have hmeth' : T.vm.method? m = some meth := X.method'
  refine ⟨T.setFrames fs, ?_, .returned (some (.int 1)), hrun, hended, rfl, ⟨_, rfl⟩, hW, hframe⟩
  jvm_step X.here [X.here.top, hx, hb, hdg, hmeth', hr, ret, narrow_b1]
  (try refine ⟨rfl, ?_⟩); (try refine ⟨rfl, ?_⟩)
  first | (intro acts; rw [hret _ acts rfl rfl rfl]) | rw [hret _ _ rfl rfl rfl]
  exact Steps.refl _
/-- what holds at the law's entry: the machine, the code, the tables' words (any of lw_tbl by 'hts w (by decide +kernel)'), the script of L ints xs at the cell b, what the Statement gives of the start (any of its parts by flat_of_before) -/
def lw_At (p : Program) (s : State) (m : MethodId) (meth : Method) (c : Code) (b L : Nat) (xs : Nat → Int32) : Prop :=
  p.tables.exec = Jvm.exec ∧ c.code = code ∧ meth.sig.returnType = ret ∧ c.maxLocals = 4 ∧ s.vm.findClass R_law = some m.cls ∧ (∀ w ∈ lw_tbl, w.before #[Value.ref b] s = true) ∧ va_X b L xs s s.heap ∧ b < s.heap.size ∧ meth.locks = false ∧ (Jvm.Cond.and given_1 narrow_1).before #[Value.ref b] s = true
def aG (qx qm b : Nat) (u u2 adK adV : Nat → Nat) (p : Nat) : Nat := if p = 0 then qx else if p < 53 then u p else if p = 53 then qm else if p < 86 then u2 (p - 53) else if 100 ≤ p ∧ p < 105 then adK (p - 100) else if 110 ≤ p ∧ p < 115 then adV (p - 110) else b
theorem aG_K {qx qm b : Nat} {u u2 adK adV : Nat → Nat} {i : Nat} (h : i < 5) : aG qx qm b u u2 adK adV (100 + i) = adK i := by
  unfold aG
  rw [if_neg (by omega), if_neg (by omega), if_neg (by omega), if_neg (by omega), if_pos (by omega), Nat.add_sub_cancel_left]
theorem aG_V {qx qm b : Nat} {u u2 adK adV : Nat → Nat} {i : Nat} (h : i < 5) : aG qx qm b u u2 adK adV (110 + i) = adV i := by
  unfold aG
  rw [if_neg (by omega), if_neg (by omega), if_neg (by omega), if_neg (by omega), if_neg (by omega), if_pos (by omega), Nat.add_sub_cancel_left]
theorem vkS_congr {N : Nat} {len : List Nat} {byt : List (List Int32)} {aK aV aK' aV' : Nat → Nat} {A : Nat → Prop} {U : State} {H : Heap} (h : vk_S N len byt aK aV A U H) (e1 : ∀ i, i < N → aK' i = aK i) (e2 : ∀ i, i < N → aV' i = aV i) : vk_S N len byt aK' aV' A U H := by
  refine ⟨fun i hi => ?_, fun i j hi hj e => h.2 i j hi hj (by rw [← e1 i hi, ← e1 j hj]; exact e)⟩
  have h1 := h.1 i hi
  rw [← e1 i hi, ← e2 i hi] at h1
  exact h1
theorem lw_five {P : Nat → Prop} (h0 : P 0) (h1 : P 1) (h2 : P 2) (h3 : P 3) (h4 : P 4) : ∀ i, i < 5 → P i := fun i hi => by
  match i, hi with
  | 0, _ => exact h0
  | 1, _ => exact h1
  | 2, _ => exact h2
  | 3, _ => exact h3
  | 4, _ => exact h4
theorem arr_ty {s : State} {args : Array Value} {ty : FieldType} (hn : ∀ C, ty ≠ .object C) (h : (Cond.arrayClass ty).before args s = true) : ∃ cA : ClassId, ArrOfT s cA ty ∧ va_RA s cA ty := by
  obtain ⟨c, k, comp, h1, h2, h3⟩ := Cond.arrayClass_spec h
  refine ⟨c, fun n z => ⟨fun k h => (by cases h), k, h2, comp, h3⟩, ?_⟩
  cases ty <;> first
    | exact h1
    | exact absurd rfl (hn _)
theorem arr_ob {s : State} {args : Array Value} {C : String} (h : (Cond.arrayOver (.object C)).before args s = true) : ∃ cA : ClassId, ArrOfT s cA (.object C) ∧ va_RA s cA (.object C) := by
  obtain ⟨comp, c, k, h1, -, h2, h3, h4⟩ := Cond.arrayOver_spec h
  exact ⟨c, fun n z => ⟨fun k h => (by cases h), k, h2, comp, h3⟩, k, comp, h2, h3, h1, h4⟩
def tmS (i : Nat) : Term := .string "SpadeRings$Script" (strI.getD i 0)
set_option maxHeartbeats 4000000 in
set_option maxRecDepth 100000 in
theorem lw_strs {s : State} {b : Nat} (hgv : (Jvm.Cond.and given_1 narrow_1).before #[Value.ref b] s = true) {A : Nat → Prop} (hA : ∀ a : Nat, a < s.heap.size → ¬ A a) : ∃ adK adV : Nat → Nat, vk_S 5 lenK bytK adK adV A s s.heap ∧ ∀ i : Nat, i < 5 → (tmS i).eval #[Value.ref b] s none [] s = some (.ref (adK i)) := by
  have hs := flat_of_before _ hgv
  refine vk_Sof (by decide) (lw_five (hs _ (by decide +kernel)) (hs _ (by decide +kernel)) (hs _ (by decide +kernel)) (hs _ (by decide +kernel)) (hs _ (by decide +kernel))) (lw_five (hs _ (by decide +kernel)) (hs _ (by decide +kernel)) (hs _ (by decide +kernel)) (hs _ (by decide +kernel)) (hs _ (by decide +kernel))) (lw_five (hs _ (by decide +kernel)) (hs _ (by decide +kernel)) (hs _ (by decide +kernel)) (hs _ (by decide +kernel)) (hs _ (by decide +kernel))) (lw_five (hs _ (by decide +kernel)) (hs _ (by decide +kernel)) (hs _ (by decide +kernel)) (hs _ (by decide +kernel)) (hs _ (by decide +kernel))) (fun i hi => (lw_five (P := fun i => ∀ j : Nat, j < lenK.getD i 0 → (Cond.eq (.elem (.field (tmS i) "java/lang/String" "value" "[B") (.int (Int32.ofNat j))) (.int ((bytK.getD i []).getD j 0))).before #[Value.ref b] s = true) (fun j hj => by
      have hj2 : j < 6 := hj
      rcases (show j = 0 ∨ j = 1 ∨ j = 2 ∨ j = 3 ∨ j = 4 ∨ j = 5 by omega) with rfl | rfl | rfl | rfl | rfl | rfl <;> exact hs _ (by decide +kernel)) (fun j hj => by
      have hj2 : j < 5 := hj
      rcases (show j = 0 ∨ j = 1 ∨ j = 2 ∨ j = 3 ∨ j = 4 by omega) with rfl | rfl | rfl | rfl | rfl <;> exact hs _ (by decide +kernel)) (fun j hj => by
      have hj2 : j < 4 := hj
      rcases (show j = 0 ∨ j = 1 ∨ j = 2 ∨ j = 3 by omega) with rfl | rfl | rfl | rfl <;> exact hs _ (by decide +kernel)) (fun j hj => by
      have hj2 : j < 5 := hj
      rcases (show j = 0 ∨ j = 1 ∨ j = 2 ∨ j = 3 ∨ j = 4 by omega) with rfl | rfl | rfl | rfl | rfl <;> exact hs _ (by decide +kernel)) (fun j hj => by
      have hj2 : j < 4 := hj
      rcases (show j = 0 ∨ j = 1 ∨ j = 2 ∨ j = 3 by omega) with rfl | rfl | rfl | rfl <;> exact hs _ (by decide +kernel))) i hi) ?_ hA
  intro i j hi hj hij
  match i, j, hi, hj, hij with
  | 0, 0, _, _, hij => exact absurd rfl hij
  | 0, 1, _, _, hij => exact Or.inl (hs _ (by decide +kernel))
  | 0, 2, _, _, hij => exact Or.inl (hs _ (by decide +kernel))
  | 0, 3, _, _, hij => exact Or.inl (hs _ (by decide +kernel))
  | 0, 4, _, _, hij => exact Or.inl (hs _ (by decide +kernel))
  | 1, 0, _, _, hij => exact Or.inr (hs _ (by decide +kernel))
  | 1, 1, _, _, hij => exact absurd rfl hij
  | 1, 2, _, _, hij => exact Or.inl (hs _ (by decide +kernel))
  | 1, 3, _, _, hij => exact Or.inl (hs _ (by decide +kernel))
  | 1, 4, _, _, hij => exact Or.inl (hs _ (by decide +kernel))
  | 2, 0, _, _, hij => exact Or.inr (hs _ (by decide +kernel))
  | 2, 1, _, _, hij => exact Or.inr (hs _ (by decide +kernel))
  | 2, 2, _, _, hij => exact absurd rfl hij
  | 2, 3, _, _, hij => exact Or.inl (hs _ (by decide +kernel))
  | 2, 4, _, _, hij => exact Or.inl (hs _ (by decide +kernel))
  | 3, 0, _, _, hij => exact Or.inr (hs _ (by decide +kernel))
  | 3, 1, _, _, hij => exact Or.inr (hs _ (by decide +kernel))
  | 3, 2, _, _, hij => exact Or.inr (hs _ (by decide +kernel))
  | 3, 3, _, _, hij => exact absurd rfl hij
  | 3, 4, _, _, hij => exact Or.inl (hs _ (by decide +kernel))
  | 4, 0, _, _, hij => exact Or.inr (hs _ (by decide +kernel))
  | 4, 1, _, _, hij => exact Or.inr (hs _ (by decide +kernel))
  | 4, 2, _, _, hij => exact Or.inr (hs _ (by decide +kernel))
  | 4, 3, _, _, hij => exact Or.inr (hs _ (by decide +kernel))
  | 4, 4, _, _, hij => exact absurd rfl hij
theorem kw_143 : (.classLink RL 7 RX9 : Cond) ∈ lw_G := lw_G_in (lw_m1 (List.mem_of_getElem? (i := 19) rfl)) rfl
theorem kw_144 : (.instantiable RX9 13 : Cond) ∈ lw_G := lw_G_in (lw_m1 (List.mem_of_getElem? (i := 20) rfl)) rfl
theorem kw_145 : (.initialized RX9 : Cond) ∈ lw_G := lw_G_in (lw_m1 (List.mem_of_getElem? (i := 1) rfl)) rfl
theorem kw_146 : (.code yX9_init cX9_init 2 none : Cond) ∈ lw_G := lw_G_in (lw_m1 (List.mem_of_getElem? (i := 23) rfl)) rfl
theorem kw_147 : (.instanceMethod yX9_init : Cond) ∈ lw_G := lw_G_in (lw_m1 (List.mem_of_getElem? (i := 22) rfl)) rfl
theorem kw_148 : (.methodLink RL 9 yX9_init : Cond) ∈ lw_G := lw_G_in (lw_m1 (List.mem_of_getElem? (i := 21) rfl)) rfl
theorem kw_149 : (.classLink RL 10 RX10 : Cond) ∈ lw_G := lw_G_in (lw_m4 (List.mem_of_getElem? (i := 210) rfl)) rfl
theorem kw_150 : (.instantiable RX10 42 : Cond) ∈ lw_G := lw_G_in (lw_m4 (List.mem_of_getElem? (i := 211) rfl)) rfl
theorem kw_151 : (.initialized RX10 : Cond) ∈ lw_G := lw_G_in (lw_m1 (List.mem_of_getElem? (i := 11) rfl)) rfl
theorem kw_152 : (.code yX10_init cX10_init 1 none : Cond) ∈ lw_G := lw_G_in (lw_m4 (List.mem_of_getElem? (i := 214) rfl)) rfl
theorem kw_153 : (.instanceMethod yX10_init : Cond) ∈ lw_G := lw_G_in (lw_m4 (List.mem_of_getElem? (i := 213) rfl)) rfl
theorem kw_154 : (.methodLink RL 12 yX10_init : Cond) ∈ lw_G := lw_G_in (lw_m4 (List.mem_of_getElem? (i := 212) rfl)) rfl
set_option maxHeartbeats 4000000 in
set_option maxRecDepth 100000 in
/-- behind both constructors: the loop, in the small machine -/
theorem lw_goes {p : Program} {e : Env} {s : State} {m : MethodId} {below : List Frame} {meth : Method} {c : Code} (l : Launch) {b L : Nat} {xs : Nat → Int32} (hL : L ≤ 3072) (hx : p.tables.exec = Jvm.exec) (hb : c.code = code) (hr : meth.sig.returnType = ret) (hml : c.maxLocals = 4) (hown : s.vm.findClass R_law = some m.cls) (hG : ∀ w ∈ lw_G, w.before #[Value.ref b] s = true) (hX : va_X b L xs s s.heap) (hbl : b < s.heap.size) (hlocks : meth.locks = false) {dC : Nat → ClassId} {dI : Nat → Nat → Nat} {g : Nat → ClassId} (hK : va_K (dC, dI) vwCl (cTy g) s) {adK adV : Nat → Nat} (hvs : vk_S 5 lenK bytK adK adV (fun q : Nat => s.heap.size ≤ q) s s.heap) (hev : ∀ i : Nat, i < 5 → (tmS i).eval #[Value.ref b] s none [] s = some (.ref (adK i)))
    (hz1 : va_Z "java/lang/String" "COMPACT_STRINGS" "Z" (.int 1) (fun q : Nat => s.heap.size ≤ q) s s.heap) {fm : Value} (hfm : fm = .null ∨ ∃ t, fm = .ref t) (hfm2 : va_Z "jdk/internal/util/Preconditions" "SIOOBE_FORMATTER" "Ljava/util/function/BiFunction;" fm (fun q : Nat => s.heap.size ≤ q) s s.heap) (hts : ∀ w ∈ lw_tbl, w.before #[Value.ref b] s = true) {H : Heap} {qx qm : Nat} {u u2 : Nat → Nat} (hP : va_P (dC, dI) vwCl (wX9 g qx u ++ wX10 g qm u2) H) (hD : va_D (fun q : Nat => s.heap.size ≤ q) (wX9 g qx u ++ wX10 g qm u2)) (hS : va_S (fun q : Nat => s.heap.size ≤ q) s.heap H []) {ls : Array Slot} (hl : lv_has ls 4 [(0, .ref b), (1, .ref qx), (2, .ref qm), (3, .int 0)]) : W p l e room_1 s m #[Value.ref b] below meth c H [] 86 2175 (lw_Z below #[Value.ref b] s) (F0 m 18 ls []) := by
  obtain ⟨G, hGe⟩ : ∃ G : mG, G = ((dC, dI), aG qx qm b u u2 adK adV, g, fm) := ⟨_, rfl⟩
  have hPG : va_P G.1 vwCl (mWs G st0) H := by
    rw [mWs0, hGe]
    exact hP
  have hDG : va_D (fun q : Nat => s.heap.size ≤ q) (mWs G st0) := by
    rw [mWs0, hGe]
    exact hD
  have hinj : ∀ i j : Nat, i < 86 → j < 86 → G.2.1 i = G.2.1 j → i = j := fun i j hi hj he => hDG.1 i j _ _ (mWs_get hi) (mWs_get hj) he
  have hge : ∀ q, mA G q → s.heap.size ≤ q := by
    rintro q ⟨k, hk, rfl⟩
    exact hDG.2 k _ (mWs_get hk)
  have e120 : G.2.1 120 = b := by rw [hGe]; rfl
  have hKG : va_K G.1 vwCl (mTys G) s := by rw [hGe]; exact hK
  have hSR : mSR G s := by
    refine ⟨hinj, vkS_congr (hvs.narrow hge) (fun i hi => by rw [hGe]; exact aG_K hi) (fun i hi => by rw [hGe]; exact aG_V hi), ?_, hz1.narrow hge, by rw [hGe] at hge ⊢; exact hfm2.narrow hge, by rw [hGe]; exact hfm⟩
    intro i hi
    have ek : G.2.1 (100 + i) = adK i := by rw [hGe]; exact aG_K hi
    rw [ek]
    have h9 := hev i hi
    match i, hi, h9 with
    | 0, _, h9 => exact vk_R.of (hts _ (show (.stringRef "SpadeRings$Script" 122 "digger" : Cond) ∈ lw_tbl from lw_m2 (List.mem_of_getElem? (i := 174) rfl))) h9
    | 1, _, h9 => exact vk_R.of (hts _ (show (.stringRef "SpadeRings$Script" 128 "spade" : Cond) ∈ lw_tbl from lw_m2 (List.mem_of_getElem? (i := 227) rfl))) h9
    | 2, _, h9 => exact vk_R.of (hts _ (show (.stringRef "SpadeRings$Script" 130 "yard" : Cond) ∈ lw_tbl from lw_m2 (List.mem_of_getElem? (i := 228) rfl))) h9
    | 3, _, h9 => exact vk_R.of (hts _ (show (.stringRef "SpadeRings$Script" 132 "right" : Cond) ∈ lw_tbl from lw_m2 (List.mem_of_getElem? (i := 229) rfl))) h9
    | 4, _, h9 => exact vk_R.of (hts _ (show (.stringRef "SpadeRings$Script" 134 "left" : Cond) ∈ lw_tbl from lw_m2 (List.mem_of_getElem? (i := 230) rfl))) h9
  have hSG : va_S (mA G) s.heap H [] := ⟨hS.1, fun q h1 _ => hS.2.1 q h1 (Nat.not_le.mpr h1), fun q hq => by cases hq⟩
  have F : mFix p s m #[Value.ref b] c code 4 R_law G (L + 1, xs) := ⟨hx, hb, hml, hown, hG, hKG, hSR, Or.inr ⟨by rw [e120]; exact hX, by rw [e120]; exact hbl, fun h => by rw [e120] at h; exact absurd (hge b h) (Nat.not_le.mpr hbl)⟩⟩
  have hret : mRg p l e room_1 s m #[Value.ref b] below meth c 86 2175 (lw_Z below #[Value.ref b] s) G code (some .boolean) (fun v _ => v = some (.int 1)) := by
    intro v st H2 locs pc lsA hv _ _ hS2 hdg
    subst hv
    refine va_forget (fun q hq => hge _ (hS2.2.2 q hq)) ?_
    refine W.widen (k := 600000) (n := 7302250) (Nat.le_of_ble_eq_true rfl) (Nat.le_of_ble_eq_true rfl) ?_
    exact lw_ret hx hb hr hlocks hdg
  obtain ⟨n, hn⟩ := law_mini (S := (L + 1, xs)) (L := L) (Q := fun v _ => v = some (.int 1)) rfl (Nat.succ_pos L) hL (fun _ => rfl) (L + 1) 0 st0 (Nat.zero_le _) (by omega) INV_0
  have hlo : mLo G ls 4 [some (.ref 120), some (.ref 0), some (.ref 53), some (.int (nI 0))] := by
    refine ⟨?_, rfl⟩
    have e0 : mPrs G 0 [some (.ref 120), some (.ref 0), some (.ref 53), some (.int (nI 0))] = [(0, .ref (G.2.1 120)), (1, .ref (G.2.1 0)), (2, .ref (G.2.1 53)), (3, .int (nI 0))] := rfl
    rw [e0, e120, show G.2.1 0 = qx by rw [hGe]; rfl, show G.2.1 53 = qm by rw [hGe]; rfl]
    exact hl
  exact mOk_sound F (mSound l G 20) ⟨Nat.le_of_ble_eq_true rfl, Nat.le_of_ble_eq_true rfl⟩ ⟨Nat.le_of_ble_eq_true rfl, Nat.le_of_ble_eq_true rfl⟩ hret ck_L_law n 18 _ [] st0 H [] ls hn hPG hSG hlo
set_option maxHeartbeats 8000000 in
set_option maxRecDepth 100000 in
theorem whole_start {p : Program} {e : Env} {s : State} {m : MethodId} {below : List Frame} {meth : Method} {c : Code} (l : Launch) (hflags : l.flags = flags0) {b L : Nat} {xs : Nat → Int32} (hL : L ≤ 3072) (C0 : lw_At p s m meth c b L xs) : W p l e room_1 s m #[Value.ref b] below meth c s.heap [] 0 0 (lw_Z below #[Value.ref b] s) (entryFrame m ([Value.ref b] : List Value).toArray 4) := by
  obtain ⟨hx, hb, hr, hml, hown, hts, hX, hbl, hlocks, hgv⟩ := id C0
  have hG : ∀ w ∈ lw_G, w.before #[Value.ref b] s = true := fun w hw => hts w (List.mem_filter.mp hw).1
  have hA : ∀ q : Nat, s.heap.size ≤ q → (fun q : Nat => s.heap.size ≤ q) q := fun _ h => h
  have hnA : ∀ a : Nat, a < s.heap.size → ¬ (fun q : Nat => s.heap.size ≤ q) a := fun a h => Nat.not_le.mpr h
  have hs := flat_of_before _ hgv
  have hAO : va_AO "SpadeRings$Now" s := va_AO.of (A := #[Value.ref b]) (hts _ (lw_m1 (List.mem_of_getElem? (i := 156) rfl)))
  have hkn : ∀ k : Nat, ∃ (cC : ClassId) (iS : Nat → Nat), ∀ q : vw_C, vwCl[k]? = some q → u_Kn s q.1 q.2.1 q.2.2 cC iS := by
    intro k
    match k with
    | 0 => exact (u_known (C := RX0) (T := TX0) (N := 5) (n := 5) hts (vwCl_in 0 _ rfl) (hG _ kw_67)).elim (fun c h => h.elim (fun i h => ⟨c, i, fun q hq => by cases hq; exact h⟩))
    | 1 => exact (u_known (C := RX1) (T := TX1) (N := 10) (n := 10) hts (vwCl_in 1 _ rfl) (hG _ kw_51)).elim (fun c h => h.elim (fun i h => ⟨c, i, fun q hq => by cases hq; exact h⟩))
    | 2 => exact (u_known (C := RX2) (T := TX2) (N := 8) (n := 8) hts (vwCl_in 2 _ rfl) (hG _ kw_74)).elim (fun c h => h.elim (fun i h => ⟨c, i, fun q hq => by cases hq; exact h⟩))
    | 3 => exact (u_known (C := RX3) (T := TX3) (N := 4) (n := 4) hts (vwCl_in 3 _ rfl) (hG _ kw_95)).elim (fun c h => h.elim (fun i h => ⟨c, i, fun q hq => by cases hq; exact h⟩))
    | 4 => exact (u_known (C := RX4) (T := TX4) (N := 7) (n := 7) hts (vwCl_in 4 _ rfl) (hG _ kw_88)).elim (fun c h => h.elim (fun i h => ⟨c, i, fun q hq => by cases hq; exact h⟩))
    | 5 => exact (u_known (C := RX5) (T := TX5) (N := 9) (n := 9) hts (vwCl_in 5 _ rfl) (hG _ kw_59)).elim (fun c h => h.elim (fun i h => ⟨c, i, fun q hq => by cases hq; exact h⟩))
    | 6 => exact (u_known (C := RX6) (T := TX6) (N := 5) (n := 5) hts (vwCl_in 6 _ rfl) (hG _ kw_81)).elim (fun c h => h.elim (fun i h => ⟨c, i, fun q hq => by cases hq; exact h⟩))
    | 7 => exact (u_known (C := RX7) (T := TX7) (N := 6) (n := 6) hts (vwCl_in 7 _ rfl) (hG _ kw_44)).elim (fun c h => h.elim (fun i h => ⟨c, i, fun q hq => by cases hq; exact h⟩))
    | 8 => exact (u_known (C := RX8) (T := TX8) (N := 4) (n := 4) hts (vwCl_in 8 _ rfl) (hG _ kw_102)).elim (fun c h => h.elim (fun i h => ⟨c, i, fun q hq => by cases hq; exact h⟩))
    | 9 => exact (u_known (C := RX9) (T := TX9) (N := 13) (n := 13) hts (vwCl_in 9 _ rfl) (hG _ kw_144)).elim (fun c h => h.elim (fun i h => ⟨c, i, fun q hq => by cases hq; exact h⟩))
    | 10 => exact (u_known (C := RX10) (T := TX10) (N := 42) (n := 42) hts (vwCl_in 10 _ rfl) (hG _ kw_150)).elim (fun c h => h.elim (fun i h => ⟨c, i, fun q hq => by cases hq; exact h⟩))
    | k + 11 => exact ⟨0, fun _ => 0, fun q hq => by simp [vwCl] at hq⟩
  obtain ⟨dC, dI, hKc⟩ : ∃ (dC : Nat → ClassId) (dI : Nat → Nat → Nat), ∀ (k : Nat) (q : vw_C), vwCl[k]? = some q → u_Kn s q.1 q.2.1 q.2.2 (dC k) (dI k) := ⟨fun k => (hkn k).choose, fun k => (hkn k).choose_spec.choose, fun k => (hkn k).choose_spec.choose_spec⟩
  obtain ⟨g0, ga0, gb0⟩ := arr_ty (ty := .int) (fun _ h => by cases h) (hG _ kw_3)
  obtain ⟨g1, ga1, gb1⟩ := arr_ty (ty := .byte) (fun _ h => by cases h) (hG _ kw_109)
  obtain ⟨g2, ga2, gb2⟩ := arr_ty (ty := .boolean) (fun _ h => by cases h) (hG _ kw_122)
  obtain ⟨g3, ga3, gb3⟩ := arr_ob (C := "SpadeRings$Now") (args := #[Value.ref b]) (va_AO.use hAO)
  obtain ⟨g, hg0, hg1, hg2, hg3⟩ : ∃ g : Nat → ClassId, g 0 = g0 ∧ g 1 = g1 ∧ g 2 = g2 ∧ g 3 = g3 := ⟨fun k => if k = 0 then g0 else if k = 1 then g1 else if k = 2 then g2 else g3, rfl, rfl, rfl, rfl⟩
  have hK : va_K (dC, dI) vwCl (cTy g) s := by
    refine ⟨hKc, fun k q h => ?_⟩
    match k, h with
    | 0, h => cases h; rw [hg0]; exact ⟨ga0, gb0⟩
    | 1, h => cases h; rw [hg1]; exact ⟨ga1, gb1⟩
    | 2, h => cases h; rw [hg2]; exact ⟨ga2, gb2⟩
    | 3, h => cases h; rw [hg3]; exact ⟨ga3, gb3⟩
    | k + 4, h => simp [cTy] at h
  obtain ⟨adK, adV, hvs, hev⟩ := lw_strs hgv (A := fun q : Nat => s.heap.size ≤ q) hnA
  have hz1 : va_Z "java/lang/String" "COMPACT_STRINGS" "Z" (.int 1) (fun q : Nat => s.heap.size ≤ q) s s.heap := va_Zof (args := #[Value.ref b]) (hts _ (by decide +kernel)) (hts _ (by decide +kernel)) (Cond.eq_int (hs _ (show (Jvm.Cond.eq (Jvm.Term.static "java/lang/String" "COMPACT_STRINGS" "Z") (Jvm.Term.int (1 : Int32))) ∈ _ by decide +kernel)) rfl) hnA
  have hzq : va_Zq "jdk/internal/util/Preconditions" "SIOOBE_FORMATTER" "Ljava/util/function/BiFunction;" (fun q : Nat => s.heap.size ≤ q) s s.heap := va_Zqof (args := #[Value.ref b]) (hts _ (by decide +kernel)) (hts _ (by decide +kernel)) (hs _ (by decide +kernel)) hnA
  obtain ⟨fm, hfm, hfm2⟩ : ∃ fm : Value, (fm = .null ∨ ∃ t, fm = .ref t) ∧ va_Z "jdk/internal/util/Preconditions" "SIOOBE_FORMATTER" "Ljava/util/function/BiFunction;" fm (fun q : Nat => s.heap.size ≤ q) s s.heap := by
    rcases hzq with h | ⟨t, h⟩
    · exact ⟨.null, Or.inl rfl, h⟩
    · exact ⟨.ref t, Or.inr ⟨t, rfl⟩, h⟩
  have hS : va_S (fun q : Nat => s.heap.size ≤ q) s.heap s.heap [] := va_S.rf
  have hP : va_P (dC, dI) vwCl [] s.heap := fun k q h => by simp at h
  have hD : va_D (fun q : Nat => s.heap.size ≤ q) [] := ⟨fun i j p q h => by simp at h, fun k q h => by simp at h⟩
  have hl := lv_entry ([.ref b]) (n := 4) (Nat.le_of_ble_eq_true rfl)
  rw [lg_entry_eq]
  generalize (lg_sl ([.ref b]) ++ List.replicate (4 - (lg_sl ([.ref b])).length) Slot.unset).toArray = ls at hl ⊢
  have hl : lv_has ls 4 [(0, .ref b)] := hl
  refine va_new (ci := 9) (fs := oX9) (C := RX9) (T := TX9) (N := 13) (Ts := lw_G) hx hb hG (u_ws_G (ci := 9) rfl) tyX9 tyX9_ok hown (hG _ kw_143) (hG _ kw_144) (hG _ kw_145) hK hP hD hS hA rfl oX9_ok (Nat.le_of_ble_eq_true rfl) (Nat.le_of_ble_eq_true rfl) (show decode code 0 = .ok (.new 7, 3) by decide +kernel) (fun qx H hP hD hS => ?_)
  have hP : va_P (dC, dI) vwCl (wo 9 oX9 qx) H := hP
  have hD : va_D (fun q : Nat => s.heap.size ≤ q) (wo 9 oX9 qx) := hD
  refine W.widen (k := 1) (n := 13) (Nat.le_refl _) (Nat.le_refl _) ?_
  refine lv_dup hx hb (show decode code 3 = .ok (.dup, 1) by decide +kernel) rfl ?_
  have hPc := hP.sub (ws' := wo 9 oX9 qx) [0] rfl
  have hDc := hD.sub (ws' := wo 9 oX9 qx) [0] (by decide) rfl
  have hFc := va_free (wc := wo 9 oX9 qx) hD hS hA [0] rfl
  refine va_callv (va_runI (Ts := lw_G) (As := []) (rest := [.ref qx]) ⟨hx, hb, hml, hown, hG⟩ (cc_X9 l (dC, dI) g qx H.size) ⟨⟨rfl, rfl, Nat.le_of_ble_eq_true rfl, Nat.le_of_ble_eq_true rfl, cwarm kw_146 hG, List.mem_cons_self, hG _ kw_146, hG _ kw_145, ⟨by decide +kernel, by decide +kernel⟩, csig (by decide +kernel), hG _ kw_148⟩, rfl, hG _ kw_147⟩ ⟨cPc_blind, fun U hU hW => ⟨rfl, by rw [hU], by rw [hU]; exact hPc, va_K.moved hW.alike hK, hDc.weaken (fun _ _ _ _ => trivial), va_AO.moved hW.alike hAO⟩⟩ rfl rfl hl.1 rfl (lv_room (Nat.le_of_ble_eq_true rfl)) (show decode code 4 = .ok (.invokespecial 9, 3) by decide +kernel) ⟨Nat.le_of_ble_eq_true rfl, Nat.le_of_ble_eq_true rfl⟩) hS (fun q _ h => hFc q h) hFc (fun u t H1 locs ht hvm h5 hB hzH hk1 hS => ?_)
  obtain ⟨hP1, hK1, hD1⟩ := hB
  rw [ht] at hP1
  clear hK1
  obtain ⟨hP, hD⟩ := va_join (wr := []) (w1 := wX9 g qx u) hP hD [0] [] rfl rfl (by decide) (by decide) hk1 hFc hP1 hD1
  generalize H1 = H at hP hS ⊢
  refine W.widen (k := 53) (n := 1385) (Nat.le_refl _) (Nat.le_refl _) ?_
  refine lv_astore_n (lv' := [(1, .ref qx), (0, .ref b)]) hx hb (show decode code 7 = .ok (.astore_n 1, 1) by decide +kernel) rfl hl (by decide) rfl (fun ls hl => ?_)
  refine va_new (ci := 10) (fs := oX10) (C := RX10) (T := TX10) (N := 42) (Ts := lw_G) hx hb hG (u_ws_G (ci := 10) rfl) tyX10 tyX10_ok hown (hG _ kw_149) (hG _ kw_150) (hG _ kw_151) hK hP hD hS hA rfl oX10_ok (Nat.le_of_ble_eq_true rfl) (Nat.le_of_ble_eq_true rfl) (show decode code 8 = .ok (.new 10, 3) by decide +kernel) (fun qm H hP hD hS => ?_)
  have hP : va_P (dC, dI) vwCl (wX9 g qx u ++ wo 10 oX10 qm) H := hP
  have hD : va_D (fun q : Nat => s.heap.size ≤ q) (wX9 g qx u ++ wo 10 oX10 qm) := hD
  refine W.widen (k := 54) (n := 1427) (Nat.le_refl _) (Nat.le_refl _) ?_
  refine lv_dup hx hb (show decode code 11 = .ok (.dup, 1) by decide +kernel) rfl ?_
  have hPc := hP.sub (ws' := wo 10 oX10 qm) [53] rfl
  have hDc := hD.sub (ws' := wo 10 oX10 qm) [53] (by decide) rfl
  have hFc := va_free (wc := wo 10 oX10 qm) hD hS hA [53] rfl
  refine va_callv (va_runI (Ts := lw_G) (As := []) (rest := [.ref qm]) ⟨hx, hb, hml, hown, hG⟩ (cc_X10 l (dC, dI) g qm H.size) ⟨⟨rfl, rfl, Nat.le_of_ble_eq_true rfl, Nat.le_of_ble_eq_true rfl, cwarm kw_152 hG, List.mem_cons_self, hG _ kw_152, hG _ kw_151, ⟨by decide +kernel, by decide +kernel⟩, csig (by decide +kernel), hG _ kw_154⟩, rfl, hG _ kw_153⟩ ⟨cPc_blind, fun U hU hW => ⟨rfl, by rw [hU], by rw [hU]; exact hPc, va_K.moved hW.alike hK, hDc.weaken (fun _ _ _ _ => trivial), va_AO.moved hW.alike hAO⟩⟩ rfl rfl hl.1 rfl (lv_room (Nat.le_of_ble_eq_true rfl)) (show decode code 12 = .ok (.invokespecial 12, 3) by decide +kernel) ⟨Nat.le_of_ble_eq_true rfl, Nat.le_of_ble_eq_true rfl⟩) hS (fun q _ h => hFc q h) hFc (fun u2 t H1 locs ht hvm h5 hB hzH hk1 hS => ?_)
  obtain ⟨hP1, hK1, hD1⟩ := hB
  rw [ht] at hP1
  clear hK1
  obtain ⟨hP, hD⟩ := va_join (wr := wX9 g qx u) (w1 := wX10 g qm u2) hP hD [53] [0, 1, 2, 3, 4, 5, 6, 7, 8, 9, 10, 11, 12, 13, 14, 15, 16, 17, 18, 19, 20, 21, 22, 23, 24, 25, 26, 27, 28, 29, 30, 31, 32, 33, 34, 35, 36, 37, 38, 39, 40, 41, 42, 43, 44, 45, 46, 47, 48, 49, 50, 51, 52] rfl rfl (by decide) (by decide) hk1 hFc hP1 hD1
  generalize H1 = H at hP hS ⊢
  refine W.widen (k := 86) (n := 2175) (Nat.le_refl _) (Nat.le_refl _) ?_
  refine lv_astore_n (lv' := [(2, .ref qm), (1, .ref qx), (0, .ref b)]) hx hb (show decode code 15 = .ok (.astore_n 2, 1) by decide +kernel) rfl hl (by decide) rfl (fun ls hl => ?_)
  refine lv_iconst (v := 0) hx hb (show decode code 16 = .ok (.iconst 0, 1) by decide +kernel) (by decide) ?_
  refine lv_istore_n (lv' := [(3, .int 0), (2, .ref qm), (1, .ref qx), (0, .ref b)]) hx hb (show decode code 17 = .ok (.istore_n 3, 1) by decide +kernel) rfl hl (by decide) rfl (fun ls hl => ?_)
  refine va_forget (fun q hq => hS.2.2 q hq) ?_
  have hl4 : lv_has ls 4 [(0, .ref b), (1, .ref qx), (2, .ref qm), (3, .int 0)] := lv_sub hl [3, 2, 1, 0] rfl
  exact lw_goes l hL hx hb hr hml hown hG hX hbl hlocks hK hvs hev hz1 hfm hfm2 hts hP hD ⟨hS.1, hS.2.1, fun q hq => by cases hq⟩ hl4
