/-! PICTURES OF NOW, one number changed; what a row of changes leaves alone -/
def updN (u : Nat → Nat) (k x : Nat) : Nat → Nat := fun j => if j = k then x else u j
def updI (v : Nat → Int32) (k : Nat) (x : Int32) : Nat → Int32 := fun j => if j = k then x else v j
theorem updN_s {u : Nat → Nat} {k x : Nat} : updN u k x k = x := if_pos rfl
theorem updN_n {u : Nat → Nat} {k x j : Nat} (h : j ≠ k) : updN u k x j = u j := if_neg h
theorem updI_s {u : Nat → Int32} {k : Nat} {x : Int32} : updI u k x k = x := if_pos rfl
theorem updI_n {u : Nat → Int32} {k j : Nat} {x : Int32} (h : j ≠ k) : updI u k x j = u j := if_neg h
theorem mU_at {f : Nat → Nat → Int32} {p k : Nat} {x : Int32} : mU f p k x p k = x := by rw [mU_eq]; exact pk_us
theorem mU_row {f : Nat → Nat → Int32} {p k j : Nat} {x : Int32} (h : j ≠ k) : mU f p k x p j = f p j := by rw [mU_eq]; exact pk_un h
/-- what a call may change -/
def Fr (S : List Nat) (st st1 : mSt) : Prop := (∀ p, p ∉ S → st1.1 p = st.1 p) ∧ ∀ p, p ∉ S → st1.2 p = st.2 p
theorem Fr.rf {S : List Nat} {st : mSt} : Fr S st st := ⟨fun _ _ => rfl, fun _ _ => rfl⟩
theorem Fr.trans {S : List Nat} {a b c : mSt} (h1 : Fr S a b) (h2 : Fr S b c) : Fr S a c := ⟨fun p hp => (h2.1 p hp).trans (h1.1 p hp), fun p hp => (h2.2 p hp).trans (h1.2 p hp)⟩
theorem Fr.mU {S : List Nat} {st : mSt} {p k : Nat} {x : Int32} (h : p ∈ S) : Fr S st (mU st.1 p k x, st.2) := ⟨fun q hq => mU_ne (fun e => hq (e ▸ h)), fun _ _ => rfl⟩
theorem Fr.mUL {S : List Nat} {st : mSt} {p k : Nat} {x : Int64} (h : p ∈ S) : Fr S st (st.1, mUL st.2 p k x) := ⟨fun _ _ => rfl, fun q hq => mUL_ne (fun e => hq (e ▸ h))⟩
theorem Fr.fil {S : List Nat} {st : mSt} {p k : Nat} {x : Int32} (h : p ∈ S) : Fr S st (filU st.1 p k x, st.2) := ⟨fun q hq => filU_ne (fun e => hq (e ▸ h)), fun _ _ => rfl⟩
theorem Fr.mono {S S' : List Nat} {st st1 : mSt} (h : Fr S st st1) (hs : ∀ p, p ∈ S → p ∈ S') : Fr S' st st1 := ⟨fun p hp => h.1 p (fun q => hp (hs p q)), fun p hp => h.2 p (fun q => hp (hs p q))⟩
theorem N21_rd {st : mSt} {v : Nat → Int32} {u : Nat → Nat} {yd : Nat} (h : N21 st v u yd) (x : Int32) : N21 (mU st.1 21 0 x, st.2) (updI v 0 x) u yd := by
  obtain ⟨h0, h1, h2, h3, h4, h5, h6, h7, h8⟩ := h
  exact ⟨rfl, h1, h2, h3, h4, h5, h6, h7, h8⟩
theorem N21_bt {st : mSt} {v : Nat → Int32} {u : Nat → Nat} {yd : Nat} (h : N21 st v u yd) (x : Int32) : N21 (mU st.1 21 1 x, st.2) (updI v 1 x) u yd := by
  obtain ⟨h0, h1, h2, h3, h4, h5, h6, h7, h8⟩ := h
  exact ⟨h0, rfl, h2, h3, h4, h5, h6, h7, h8⟩
theorem N21_ea {st : mSt} {v : Nat → Int32} {u : Nat → Nat} {yd : Nat} (h : N21 st v u yd) (x : Int32) : N21 (mU st.1 21 2 x, st.2) (updI v 2 x) u yd := by
  obtain ⟨h0, h1, h2, h3, h4, h5, h6, h7, h8⟩ := h
  exact ⟨h0, h1, rfl, h3, h4, h5, h6, h7, h8⟩
theorem N21_yd {st : mSt} {v : Nat → Int32} {u : Nat → Nat} {yd : Nat} (h : N21 st v u yd) (x : Nat) : N21 (mU st.1 21 3 (nI x), st.2) v u x := by
  obtain ⟨h0, h1, h2, h3, h4, h5, h6, h7, h8⟩ := h
  exact ⟨h0, h1, h2, rfl, h4, h5, h6, h7, h8⟩
theorem N21_who {st : mSt} {v : Nat → Int32} {u : Nat → Nat} {yd : Nat} (h : N21 st v u yd) (x : Nat) : N21 (mU st.1 21 4 (nI x), st.2) v (updN u 3 x) yd := by
  obtain ⟨h0, h1, h2, h3, h4, h5, h6, h7, h8⟩ := h
  exact ⟨h0, h1, h2, h3, rfl, h5, h6, fun d hd => by rw [updN_n (by omega)]; exact h7 d hd, fun y hy => by rw [updN_n (by omega)]; exact h8 y hy⟩
theorem N21_wth {st : mSt} {v : Nat → Int32} {u : Nat → Nat} {yd : Nat} (h : N21 st v u yd) (x : Nat) : N21 (mU st.1 21 5 (nI x), st.2) v (updN u 4 x) yd := by
  obtain ⟨h0, h1, h2, h3, h4, h5, h6, h7, h8⟩ := h
  exact ⟨h0, h1, h2, h3, h4, rfl, h6, fun d hd => by rw [updN_n (by omega)]; exact h7 d hd, fun y hy => by rw [updN_n (by omega)]; exact h8 y hy⟩
theorem N21_brk {st : mSt} {v : Nat → Int32} {u : Nat → Nat} {yd : Nat} (h : N21 st v u yd) (x : Nat) : N21 (mU st.1 21 6 (nI x), st.2) v (updN u 5 x) yd := by
  obtain ⟨h0, h1, h2, h3, h4, h5, h6, h7, h8⟩ := h
  exact ⟨h0, h1, h2, h3, h4, h5, rfl, fun d hd => by rw [updN_n (by omega)]; exact h7 d hd, fun y hy => by rw [updN_n (by omega)]; exact h8 y hy⟩
theorem N21_thr {st : mSt} {v : Nat → Int32} {u : Nat → Nat} {yd : Nat} (h : N21 st v u yd) (k x : Nat) (hk : k < 6) : N21 (mU st.1 22 k (nI x), st.2) v (updN u (6 + k) x) yd := by
  obtain ⟨h0, h1, h2, h3, h4, h5, h6, h7, h8⟩ := h
  refine ⟨h0, h1, h2, h3, by rw [updN_n (by omega)]; exact h4, by rw [updN_n (by omega)]; exact h5, by rw [updN_n (by omega)]; exact h6, ?_, ?_⟩
  · exact fun j hj => by
      by_cases e : j = k
      · subst e
        rw [updN_s]
        show mU st.1 22 j (nI x) 22 j = nI x
        exact mU_at
      · rw [updN_n (by omega)]
        exact (mU_row e).trans (h7 j hj)
  · exact fun y hy => by rw [updN_n (by omega)]; exact h8 y hy
theorem N21_out {st : mSt} {v : Nat → Int32} {u : Nat → Nat} {yd : Nat} (h : N21 st v u yd) (k x : Nat) : N21 (mU st.1 23 k (nI x), st.2) v (updN u (12 + k) x) yd := by
  obtain ⟨h0, h1, h2, h3, h4, h5, h6, h7, h8⟩ := h
  refine ⟨h0, h1, h2, h3, by rw [updN_n (by omega)]; exact h4, by rw [updN_n (by omega)]; exact h5, by rw [updN_n (by omega)]; exact h6, ?_, ?_⟩
  · exact fun d hd => by rw [updN_n (by omega)]; exact h7 d hd
  · exact fun j hj => by
      by_cases e : j = k
      · subst e
        rw [updN_s]
        show mU st.1 23 j (nI x) 23 j = nI x
        exact mU_at
      · rw [updN_n (by omega)]
        exact (mU_row e).trans (h8 j hj)
theorem N25_rd {st : mSt} {v : Nat → Int32} {u : Nat → Nat} {yd : Nat} (h : N25 st v u yd) (x : Int32) : N25 (mU st.1 25 0 x, st.2) (updI v 0 x) u yd := by
  obtain ⟨h0, h1, h2, h3, h4, h5, h6, h7, h8⟩ := h
  exact ⟨rfl, h1, h2, h3, h4, h5, h6, h7, h8⟩
theorem N25_bt {st : mSt} {v : Nat → Int32} {u : Nat → Nat} {yd : Nat} (h : N25 st v u yd) (x : Int32) : N25 (mU st.1 25 1 x, st.2) (updI v 1 x) u yd := by
  obtain ⟨h0, h1, h2, h3, h4, h5, h6, h7, h8⟩ := h
  exact ⟨h0, rfl, h2, h3, h4, h5, h6, h7, h8⟩
theorem N25_ea {st : mSt} {v : Nat → Int32} {u : Nat → Nat} {yd : Nat} (h : N25 st v u yd) (x : Int32) : N25 (mU st.1 25 2 x, st.2) (updI v 2 x) u yd := by
  obtain ⟨h0, h1, h2, h3, h4, h5, h6, h7, h8⟩ := h
  exact ⟨h0, h1, rfl, h3, h4, h5, h6, h7, h8⟩
theorem N25_yd {st : mSt} {v : Nat → Int32} {u : Nat → Nat} {yd : Nat} (h : N25 st v u yd) (x : Nat) : N25 (mU st.1 25 3 (nI x), st.2) v u x := by
  obtain ⟨h0, h1, h2, h3, h4, h5, h6, h7, h8⟩ := h
  exact ⟨h0, h1, h2, rfl, h4, h5, h6, h7, h8⟩
theorem N25_who {st : mSt} {v : Nat → Int32} {u : Nat → Nat} {yd : Nat} (h : N25 st v u yd) (x : Nat) : N25 (mU st.1 25 4 (nI x), st.2) v (updN u 3 x) yd := by
  obtain ⟨h0, h1, h2, h3, h4, h5, h6, h7, h8⟩ := h
  exact ⟨h0, h1, h2, h3, rfl, h5, h6, fun d hd => by rw [updN_n (by omega)]; exact h7 d hd, fun y hy => by rw [updN_n (by omega)]; exact h8 y hy⟩
theorem N25_wth {st : mSt} {v : Nat → Int32} {u : Nat → Nat} {yd : Nat} (h : N25 st v u yd) (x : Nat) : N25 (mU st.1 25 5 (nI x), st.2) v (updN u 4 x) yd := by
  obtain ⟨h0, h1, h2, h3, h4, h5, h6, h7, h8⟩ := h
  exact ⟨h0, h1, h2, h3, h4, rfl, h6, fun d hd => by rw [updN_n (by omega)]; exact h7 d hd, fun y hy => by rw [updN_n (by omega)]; exact h8 y hy⟩
theorem N25_brk {st : mSt} {v : Nat → Int32} {u : Nat → Nat} {yd : Nat} (h : N25 st v u yd) (x : Nat) : N25 (mU st.1 25 6 (nI x), st.2) v (updN u 5 x) yd := by
  obtain ⟨h0, h1, h2, h3, h4, h5, h6, h7, h8⟩ := h
  exact ⟨h0, h1, h2, h3, h4, h5, rfl, fun d hd => by rw [updN_n (by omega)]; exact h7 d hd, fun y hy => by rw [updN_n (by omega)]; exact h8 y hy⟩
theorem N25_thr {st : mSt} {v : Nat → Int32} {u : Nat → Nat} {yd : Nat} (h : N25 st v u yd) (k x : Nat) (hk : k < 6) : N25 (mU st.1 26 k (nI x), st.2) v (updN u (6 + k) x) yd := by
  obtain ⟨h0, h1, h2, h3, h4, h5, h6, h7, h8⟩ := h
  refine ⟨h0, h1, h2, h3, by rw [updN_n (by omega)]; exact h4, by rw [updN_n (by omega)]; exact h5, by rw [updN_n (by omega)]; exact h6, ?_, ?_⟩
  · exact fun j hj => by
      by_cases e : j = k
      · subst e
        rw [updN_s]
        show mU st.1 26 j (nI x) 26 j = nI x
        exact mU_at
      · rw [updN_n (by omega)]
        exact (mU_row e).trans (h7 j hj)
  · exact fun y hy => by rw [updN_n (by omega)]; exact h8 y hy
theorem N25_out {st : mSt} {v : Nat → Int32} {u : Nat → Nat} {yd : Nat} (h : N25 st v u yd) (k x : Nat) : N25 (mU st.1 27 k (nI x), st.2) v (updN u (12 + k) x) yd := by
  obtain ⟨h0, h1, h2, h3, h4, h5, h6, h7, h8⟩ := h
  refine ⟨h0, h1, h2, h3, by rw [updN_n (by omega)]; exact h4, by rw [updN_n (by omega)]; exact h5, by rw [updN_n (by omega)]; exact h6, ?_, ?_⟩
  · exact fun d hd => by rw [updN_n (by omega)]; exact h7 d hd
  · exact fun j hj => by
      by_cases e : j = k
      · subst e
        rw [updN_s]
        show mU st.1 27 j (nI x) 27 j = nI x
        exact mU_at
      · rw [updN_n (by omega)]
        exact (mU_row e).trans (h8 j hj)
theorem N28_rd {st : mSt} {v : Nat → Int32} {u : Nat → Nat} {yd : Nat} (h : N28 st v u yd) (x : Int32) : N28 (mU st.1 28 0 x, st.2) (updI v 0 x) u yd := by
  obtain ⟨h0, h1, h2, h3, h4, h5, h6, h7, h8⟩ := h
  exact ⟨rfl, h1, h2, h3, h4, h5, h6, h7, h8⟩
theorem N28_bt {st : mSt} {v : Nat → Int32} {u : Nat → Nat} {yd : Nat} (h : N28 st v u yd) (x : Int32) : N28 (mU st.1 28 1 x, st.2) (updI v 1 x) u yd := by
  obtain ⟨h0, h1, h2, h3, h4, h5, h6, h7, h8⟩ := h
  exact ⟨h0, rfl, h2, h3, h4, h5, h6, h7, h8⟩
theorem N28_ea {st : mSt} {v : Nat → Int32} {u : Nat → Nat} {yd : Nat} (h : N28 st v u yd) (x : Int32) : N28 (mU st.1 28 2 x, st.2) (updI v 2 x) u yd := by
  obtain ⟨h0, h1, h2, h3, h4, h5, h6, h7, h8⟩ := h
  exact ⟨h0, h1, rfl, h3, h4, h5, h6, h7, h8⟩
theorem N28_yd {st : mSt} {v : Nat → Int32} {u : Nat → Nat} {yd : Nat} (h : N28 st v u yd) (x : Nat) : N28 (mU st.1 28 3 (nI x), st.2) v u x := by
  obtain ⟨h0, h1, h2, h3, h4, h5, h6, h7, h8⟩ := h
  exact ⟨h0, h1, h2, rfl, h4, h5, h6, h7, h8⟩
theorem N28_who {st : mSt} {v : Nat → Int32} {u : Nat → Nat} {yd : Nat} (h : N28 st v u yd) (x : Nat) : N28 (mU st.1 28 4 (nI x), st.2) v (updN u 3 x) yd := by
  obtain ⟨h0, h1, h2, h3, h4, h5, h6, h7, h8⟩ := h
  exact ⟨h0, h1, h2, h3, rfl, h5, h6, fun d hd => by rw [updN_n (by omega)]; exact h7 d hd, fun y hy => by rw [updN_n (by omega)]; exact h8 y hy⟩
theorem N28_wth {st : mSt} {v : Nat → Int32} {u : Nat → Nat} {yd : Nat} (h : N28 st v u yd) (x : Nat) : N28 (mU st.1 28 5 (nI x), st.2) v (updN u 4 x) yd := by
  obtain ⟨h0, h1, h2, h3, h4, h5, h6, h7, h8⟩ := h
  exact ⟨h0, h1, h2, h3, h4, rfl, h6, fun d hd => by rw [updN_n (by omega)]; exact h7 d hd, fun y hy => by rw [updN_n (by omega)]; exact h8 y hy⟩
theorem N28_brk {st : mSt} {v : Nat → Int32} {u : Nat → Nat} {yd : Nat} (h : N28 st v u yd) (x : Nat) : N28 (mU st.1 28 6 (nI x), st.2) v (updN u 5 x) yd := by
  obtain ⟨h0, h1, h2, h3, h4, h5, h6, h7, h8⟩ := h
  exact ⟨h0, h1, h2, h3, h4, h5, rfl, fun d hd => by rw [updN_n (by omega)]; exact h7 d hd, fun y hy => by rw [updN_n (by omega)]; exact h8 y hy⟩
theorem N28_thr {st : mSt} {v : Nat → Int32} {u : Nat → Nat} {yd : Nat} (h : N28 st v u yd) (k x : Nat) (hk : k < 6) : N28 (mU st.1 29 k (nI x), st.2) v (updN u (6 + k) x) yd := by
  obtain ⟨h0, h1, h2, h3, h4, h5, h6, h7, h8⟩ := h
  refine ⟨h0, h1, h2, h3, by rw [updN_n (by omega)]; exact h4, by rw [updN_n (by omega)]; exact h5, by rw [updN_n (by omega)]; exact h6, ?_, ?_⟩
  · exact fun j hj => by
      by_cases e : j = k
      · subst e
        rw [updN_s]
        show mU st.1 29 j (nI x) 29 j = nI x
        exact mU_at
      · rw [updN_n (by omega)]
        exact (mU_row e).trans (h7 j hj)
  · exact fun y hy => by rw [updN_n (by omega)]; exact h8 y hy
theorem N28_out {st : mSt} {v : Nat → Int32} {u : Nat → Nat} {yd : Nat} (h : N28 st v u yd) (k x : Nat) : N28 (mU st.1 30 k (nI x), st.2) v (updN u (12 + k) x) yd := by
  obtain ⟨h0, h1, h2, h3, h4, h5, h6, h7, h8⟩ := h
  refine ⟨h0, h1, h2, h3, by rw [updN_n (by omega)]; exact h4, by rw [updN_n (by omega)]; exact h5, by rw [updN_n (by omega)]; exact h6, ?_, ?_⟩
  · exact fun d hd => by rw [updN_n (by omega)]; exact h7 d hd
  · exact fun j hj => by
      by_cases e : j = k
      · subst e
        rw [updN_s]
        show mU st.1 30 j (nI x) 30 j = nI x
        exact mU_at
      · rw [updN_n (by omega)]
        exact (mU_row e).trans (h8 j hj)
theorem NM0_v {st : mSt} {v : Nat → Int32} {u : Nat → Nat} (h : NM0 st v u) (k : Nat) (x : Int32) (hk : k < 3) : NM0 (mU st.1 65 (k) x, st.2) (updI v k x) u := by
  refine ⟨fun j hj => ?_, fun j h3 hj => ?_⟩
  · by_cases e : j = k
    · subst e
      rw [updI_s]
      show mU st.1 65 (j) x 65 (j) = x
      exact mU_at
    · rw [updI_n e]
      exact (mU_row (by omega)).trans (h.1 j hj)
  · exact (mU_row (by omega)).trans (h.2 j h3 hj)
theorem NM0_u {st : mSt} {v : Nat → Int32} {u : Nat → Nat} (h : NM0 st v u) (k x : Nat) (hk : 3 ≤ k) : NM0 (mU st.1 65 (k) (nI x), st.2) v (updN u k x) := by
  refine ⟨fun j hj => ?_, fun j h3 hj => ?_⟩
  · exact (mU_row (by omega)).trans (h.1 j hj)
  · by_cases e : j = k
    · subst e
      rw [updN_s]
      show mU st.1 65 (j) (nI x) 65 (j) = nI x
      exact mU_at
    · rw [updN_n e]
      exact (mU_row (by omega)).trans (h.2 j h3 hj)
theorem NM1_v {st : mSt} {v : Nat → Int32} {u : Nat → Nat} (h : NM1 st v u) (k : Nat) (x : Int32) (hk : k < 3) : NM1 (mU st.1 65 (20 + k) x, st.2) (updI v k x) u := by
  refine ⟨fun j hj => ?_, fun j h3 hj => ?_⟩
  · by_cases e : j = k
    · subst e
      rw [updI_s]
      show mU st.1 65 (20 + j) x 65 (20 + j) = x
      exact mU_at
    · rw [updI_n e]
      exact (mU_row (by omega)).trans (h.1 j hj)
  · exact (mU_row (by omega)).trans (h.2 j h3 hj)
theorem NM1_u {st : mSt} {v : Nat → Int32} {u : Nat → Nat} (h : NM1 st v u) (k x : Nat) (hk : 3 ≤ k) : NM1 (mU st.1 65 (20 + k) (nI x), st.2) v (updN u k x) := by
  refine ⟨fun j hj => ?_, fun j h3 hj => ?_⟩
  · exact (mU_row (by omega)).trans (h.1 j hj)
  · by_cases e : j = k
    · subst e
      rw [updN_s]
      show mU st.1 65 (20 + j) (nI x) 65 (20 + j) = nI x
      exact mU_at
    · rw [updN_n e]
      exact (mU_row (by omega)).trans (h.2 j h3 hj)
theorem NM2_v {st : mSt} {v : Nat → Int32} {u : Nat → Nat} (h : NM2 st v u) (k : Nat) (x : Int32) (hk : k < 3) : NM2 (mU st.1 65 (40 + k) x, st.2) (updI v k x) u := by
  refine ⟨fun j hj => ?_, fun j h3 hj => ?_⟩
  · by_cases e : j = k
    · subst e
      rw [updI_s]
      show mU st.1 65 (40 + j) x 65 (40 + j) = x
      exact mU_at
    · rw [updI_n e]
      exact (mU_row (by omega)).trans (h.1 j hj)
  · exact (mU_row (by omega)).trans (h.2 j h3 hj)
theorem NM2_u {st : mSt} {v : Nat → Int32} {u : Nat → Nat} (h : NM2 st v u) (k x : Nat) (hk : 3 ≤ k) : NM2 (mU st.1 65 (40 + k) (nI x), st.2) v (updN u k x) := by
  refine ⟨fun j hj => ?_, fun j h3 hj => ?_⟩
  · exact (mU_row (by omega)).trans (h.1 j hj)
  · by_cases e : j = k
    · subst e
      rw [updN_s]
      show mU st.1 65 (40 + j) (nI x) 65 (40 + j) = nI x
      exact mU_at
    · rw [updN_n e]
      exact (mU_row (by omega)).trans (h.2 j h3 hj)
