/-! EACH CALL: both answer alike, and the invariant stays -/
def CALLI (zx zm : Nat) (as : List Value) : Prop := ∀ st, INV st → ∃ (r : Int32) (s1 s2 : mSt), mMC mT 20 zx (.ref 0 :: as) st (some (.int r)) s1 ∧ mMC mT 20 zm (.ref 53 :: as) s1 (some (.int r)) s2 ∧ INV s2
def CALLL (zx zm : Nat) (as : List Value) : Prop := ∀ st, INV st → ∃ (r : Int64) (s1 s2 : mSt), mMC mT 20 zx (.ref 0 :: as) st (some (.long r)) s1 ∧ mMC mT 20 zm (.ref 53 :: as) s1 (some (.long r)) s2 ∧ INV s2
theorem i01 {x : Int32} (h : 0 ≤ x ∧ x < 2) : x = 0 ∨ x = 1 := by
  obtain ⟨k, hk, rfl⟩ := nI_in2 (m := 2) (by decide) h
  rcases (show k = 0 ∨ k = 1 by omega) with e | e
  · rw [e]
    exact Or.inl rfl
  · rw [e]
    exact Or.inr rfl
theorem k_digger (x w : Int32) : CALLI 88 144 [.int x, .int w] := by
  intro st hI
  obtain ⟨g, n, c, v, u, yd, ⟨hg, hB, hR⟩, ⟨hN, hM, hNB⟩, hT, hII, hH, hTo, hF, hL⟩ := id hI
  have hU := hNB.1
  have hyd := hNB.2.1
  obtain ⟨hyb, hyc⟩ := NB_y hB hNB
  rcases hg with ⟨rfl, hcw, hdw, hX⟩ | ⟨rfl, hcw, hdw, hX⟩
  · exact ⟨_, st, st, x_digger_5 17 n c v u yd x w st hcw hX hB hN, m_digger 17 n c v u x w st hR hM hB, hI⟩
  · exact ⟨_, st, st, x_digger_13 17 n c v u yd x w st hcw hX hB hN, m_digger 17 n c v u x w st hR hM hB, hI⟩
theorem k_spade (x w : Int32) : CALLI 89 145 [.int x, .int w] := by
  intro st hI
  obtain ⟨g, n, c, v, u, yd, ⟨hg, hB, hR⟩, ⟨hN, hM, hNB⟩, hT, hII, hH, hTo, hF, hL⟩ := id hI
  have hU := hNB.1
  have hyd := hNB.2.1
  obtain ⟨hyb, hyc⟩ := NB_y hB hNB
  rcases hg with ⟨rfl, hcw, hdw, hX⟩ | ⟨rfl, hcw, hdw, hX⟩
  · exact ⟨_, st, st, x_spade_5 17 n c v u yd x w st hcw hX hB hN (hU 5 (by decide) (by decide)), m_spade 17 n c v u x w st hR hM hB hU, hI⟩
  · exact ⟨_, st, st, x_spade_13 17 n c v u yd x w st hcw hX hB hN (hU 5 (by decide) (by decide)), m_spade 17 n c v u x w st hR hM hB hU, hI⟩
theorem k_yard (x w : Int32) : CALLI 90 146 [.int x, .int w] := by
  intro st hI
  obtain ⟨g, n, c, v, u, yd, ⟨hg, hB, hR⟩, ⟨hN, hM, hNB⟩, hT, hII, hH, hTo, hF, hL⟩ := id hI
  have hU := hNB.1
  have hyd := hNB.2.1
  obtain ⟨hyb, hyc⟩ := NB_y hB hNB
  rcases hg with ⟨rfl, hcw, hdw, hX⟩ | ⟨rfl, hcw, hdw, hX⟩
  · exact ⟨_, st, st, x_yard_5 17 n c v u yd x w st hcw hX hB hN, m_yard 17 n c v u x w st hR hM hB, hI⟩
  · exact ⟨_, st, st, x_yard_13 17 n c v u yd x w st hcw hX hB hN, m_yard 17 n c v u x w st hR hM hB, hI⟩
theorem k_may (x y : Int32) : CALLI 91 148 [.int x, .int y] := by
  intro st hI
  obtain ⟨g, n, c, v, u, yd, ⟨hg, hB, hR⟩, ⟨hN, hM, hNB⟩, hT, hII, hH, hTo, hF, hL⟩ := id hI
  have hU := hNB.1
  have hyd := hNB.2.1
  obtain ⟨hyb, hyc⟩ := NB_y hB hNB
  rcases hg with ⟨rfl, hcw, hdw, hX⟩ | ⟨rfl, hcw, hdw, hX⟩
  · exact ⟨_, st, st, x_may_5 16 n c v u yd x y st hcw hX hB hN hU, m_may 17 n c v u x y st hR hM hB hU, hI⟩
  · exact ⟨_, st, st, x_may_13 16 n c v u yd x y st hcw hX hB hN hU, m_may 17 n c v u x y st hR hM hB hU, hI⟩
theorem k_now (w : Int32) : CALLI 95 153 [.int w] := by
  intro st hI
  obtain ⟨g, n, c, v, u, yd, ⟨hg, hB, hR⟩, ⟨hN, hM, hNB⟩, hT, hII, hH, hTo, hF, hL⟩ := id hI
  have hU := hNB.1
  have hyd := hNB.2.1
  obtain ⟨hyb, hyc⟩ := NB_y hB hNB
  exact ⟨_, st, st, x_now 19 v u yd w st hN, m_now 18 n c v u yd w st hR hM hB hyd hyb hyc, hI⟩
theorem k_songs (p a q b : Int32) : CALLI 102 174 [.int p, .int a, .int q, .int b] := by
  intro st hI
  obtain ⟨g, n, c, v, u, yd, ⟨hg, hB, hR⟩, ⟨hN, hM, hNB⟩, hT, hII, hH, hTo, hF, hL⟩ := id hI
  have hU := hNB.1
  have hyd := hNB.2.1
  obtain ⟨hyb, hyc⟩ := NB_y hB hNB
  exact ⟨_, st, st, x_songs 18 p a q b st, by rw [sp_song_eq]; exact m_songs 18 p a q b st, hI⟩
theorem k_cheats (w : Int32) : CALLI 108 183 [.int w] := by
  intro st hI
  obtain ⟨g, n, c, v, u, yd, ⟨hg, hB, hR⟩, ⟨hN, hM, hNB⟩, hT, hII, hH, hTo, hF, hL⟩ := id hI
  have hU := hNB.1
  have hyd := hNB.2.1
  obtain ⟨hyb, hyc⟩ := NB_y hB hNB
  obtain ⟨a, T, C, U, hA, hP, hQ⟩ := hTo
  exact ⟨_, st, st, x_cheats 15 a T C U w st hP hA, m_cheats 18 a T C U w st hQ hA, hI⟩
theorem k_count (w : Int32) : CALLI 112 188 [.int w] := by
  intro st hI
  obtain ⟨g, n, c, v, u, yd, ⟨hg, hB, hR⟩, ⟨hN, hM, hNB⟩, hT, hII, hH, hTo, hF, hL⟩ := id hI
  have hU := hNB.1
  have hyd := hNB.2.1
  obtain ⟨hyb, hyc⟩ := NB_y hB hNB
  obtain ⟨a, T, C, U, hA, hP, hQ⟩ := hTo
  obtain ⟨a2, T2, C2, U2, hA2, hP2, hQ2⟩ := hH
  obtain ⟨L, b, hXS, hMS, hL3, hb⟩ := hT
  rcases hg with ⟨rfl, hcw, hdw, hX⟩ | ⟨rfl, hcw, hdw, hX⟩
  · exact ⟨_, st, st, x_count_5 19 n c a2 a L w st hcw hX hP2.1 hP.1 hXS.1, m_count 19 n c a2 a L w st hR hQ2.1 hQ.1 hMS.1, hI⟩
  · exact ⟨_, st, st, x_count_13 19 n c a2 a L w st hcw hX hP2.1 hP.1 hXS.1, m_count 19 n c a2 a L w st hR hQ2.1 hQ.1 hMS.1, hI⟩
theorem k_trace : CALLL 113 189 [] := by
  intro st hI
  obtain ⟨g, n, c, v, u, yd, ⟨hg, hB, hR⟩, ⟨hN, hM, hNB⟩, hT, hII, hH, hTo, hF, hL⟩ := id hI
  have hU := hNB.1
  have hyd := hNB.2.1
  obtain ⟨hyb, hyc⟩ := NB_y hB hNB
  exact ⟨_, st, st, x_trace 19 st, by rw [show st.2 0 12 = st.2 53 0 from hL]; exact m_trace 19 st, hI⟩
theorem k_longest : CALLI 97 162 [] := by
  intro st hI
  obtain ⟨g, n, c, v, u, yd, ⟨hg, hB, hR⟩, ⟨hN, hM, hNB⟩, hT, hII, hH, hTo, hF, hL⟩ := id hI
  have hU := hNB.1
  have hyd := hNB.2.1
  obtain ⟨hyb, hyc⟩ := NB_y hB hNB
  rcases hg with ⟨rfl, hcw, hdw, hX⟩ | ⟨rfl, hcw, hdw, hX⟩
  · obtain ⟨R, s1, h1, hl, hF1, hf1⟩ := x_longest_5 2 n c v u yd st hcw hX hB hN hU hF
    obtain ⟨R2, s2, h2, hl2, hf2⟩ := m_longest 14 n c v u s1 (MR_fr hf1 (by decide) hR) (NM0_fr hf1 (by decide) hM) hB hU
    obtain rfl := LGR_un hl hl2
    exact ⟨_, s1, s2, h1, h2, INV_s hI (KP.trans (KP.of hf1 (by decide) (by decide)) (KP.of hf2 (by decide) (by decide))) (by decide) (by decide) (IFol_k hf2 (by decide) hF1) (congrFun ((hf2.2 0 (by decide)).trans (hf1.2 0 (by decide))) 12) (congrFun ((hf2.2 53 (by decide)).trans (hf1.2 53 (by decide))) 0)⟩
  · obtain ⟨R, s1, h1, hl, hF1, hf1⟩ := x_longest_13 2 n c v u yd st hcw hX hB hN hU hF
    obtain ⟨R2, s2, h2, hl2, hf2⟩ := m_longest 14 n c v u s1 (MR_fr hf1 (by decide) hR) (NM0_fr hf1 (by decide) hM) hB hU
    obtain rfl := LGR_un hl hl2
    exact ⟨_, s1, s2, h1, h2, INV_s hI (KP.trans (KP.of hf1 (by decide) (by decide)) (KP.of hf2 (by decide) (by decide))) (by decide) (by decide) (IFol_k hf2 (by decide) hF1) (congrFun ((hf2.2 0 (by decide)).trans (hf1.2 0 (by decide))) 12) (congrFun ((hf2.2 53 (by decide)).trans (hf1.2 53 (by decide))) 0)⟩
theorem k_begins (x : Int32) : CALLI 98 165 [.int x] := by
  intro st hI
  obtain ⟨g, n, c, v, u, yd, ⟨hg, hB, hR⟩, ⟨hN, hM, hNB⟩, hT, hII, hH, hTo, hF, hL⟩ := id hI
  have hU := hNB.1
  have hyd := hNB.2.1
  obtain ⟨hyb, hyc⟩ := NB_y hB hNB
  rcases hg with ⟨rfl, hcw, hdw, hX⟩ | ⟨rfl, hcw, hdw, hX⟩
  · obtain ⟨r, s1, h1, hl, hF1, hf1⟩ := x_begins_5 2 n c v u yd x st hcw hX hB hN hU hF
    obtain ⟨r2, s2, h2, hl2, hf2⟩ := m_begins 14 n c v u x s1 (MR_fr hf1 (by decide) hR) (NM0_fr hf1 (by decide) hM) hB hU
    obtain rfl := BGs_un hB.1 hl hl2
    exact ⟨_, s1, s2, h1, h2, INV_s hI (KP.trans (KP.of hf1 (by decide) (by decide)) (KP.of hf2 (by decide) (by decide))) (by decide) (by decide) (IFol_k hf2 (by decide) hF1) (congrFun ((hf2.2 0 (by decide)).trans (hf1.2 0 (by decide))) 12) (congrFun ((hf2.2 53 (by decide)).trans (hf1.2 53 (by decide))) 0)⟩
  · obtain ⟨r, s1, h1, hl, hF1, hf1⟩ := x_begins_13 2 n c v u yd x st hcw hX hB hN hU hF
    obtain ⟨r2, s2, h2, hl2, hf2⟩ := m_begins 14 n c v u x s1 (MR_fr hf1 (by decide) hR) (NM0_fr hf1 (by decide) hM) hB hU
    obtain rfl := BGs_un hB.1 hl hl2
    exact ⟨_, s1, s2, h1, h2, INV_s hI (KP.trans (KP.of hf1 (by decide) (by decide)) (KP.of hf2 (by decide) (by decide))) (by decide) (by decide) (IFol_k hf2 (by decide) hF1) (congrFun ((hf2.2 0 (by decide)).trans (hf1.2 0 (by decide))) 12) (congrFun ((hf2.2 53 (by decide)).trans (hf1.2 53 (by decide))) 0)⟩
theorem k_most (x : Int32) : CALLI 99 166 [.int x] := by
  intro st hI
  obtain ⟨g, n, c, v, u, yd, ⟨hg, hB, hR⟩, ⟨hN, hM, hNB⟩, hT, hII, hH, hTo, hF, hL⟩ := id hI
  have hU := hNB.1
  have hyd := hNB.2.1
  obtain ⟨hyb, hyc⟩ := NB_y hB hNB
  rcases hg with ⟨rfl, hcw, hdw, hX⟩ | ⟨rfl, hcw, hdw, hX⟩
  · obtain ⟨s1, h1, hf1⟩ := x_most_5 14 n c v u yd x st hcw hX hB hN hU
    obtain ⟨s2, h2, hf2⟩ := m_most 15 n c v u x s1 (MR_fr hf1 (by decide) hR) (NM0_fr hf1 (by decide) hM) hB hU
    exact ⟨_, s1, s2, h1, h2, INV_s hI (KP.trans (KP.of hf1 (by decide) (by decide)) (KP.of hf2 (by decide) (by decide))) (by decide) (by decide) (IFol_k hf2 (by decide) (IFol_k hf1 (by decide) hF)) (congrFun ((hf2.2 0 (by decide)).trans (hf1.2 0 (by decide))) 12) (congrFun ((hf2.2 53 (by decide)).trans (hf1.2 53 (by decide))) 0)⟩
  · obtain ⟨s1, h1, hf1⟩ := x_most_13 14 n c v u yd x st hcw hX hB hN hU
    obtain ⟨s2, h2, hf2⟩ := m_most 15 n c v u x s1 (MR_fr hf1 (by decide) hR) (NM0_fr hf1 (by decide) hM) hB hU
    exact ⟨_, s1, s2, h1, h2, INV_s hI (KP.trans (KP.of hf1 (by decide) (by decide)) (KP.of hf2 (by decide) (by decide))) (by decide) (by decide) (IFol_k hf2 (by decide) (IFol_k hf1 (by decide) hF)) (congrFun ((hf2.2 0 (by decide)).trans (hf1.2 0 (by decide))) 12) (congrFun ((hf2.2 53 (by decide)).trans (hf1.2 53 (by decide))) 0)⟩
theorem k_rings (g0 t wh : Int32) : CALLI 100 170 [.int g0, .int t, .int wh] := by
  intro st hI
  obtain ⟨g, n, c, v, u, yd, ⟨hg, hB, hR⟩, ⟨hN, hM, hNB⟩, hT, hII, hH, hTo, hF, hL⟩ := id hI
  have hU := hNB.1
  have hyd := hNB.2.1
  obtain ⟨hyb, hyc⟩ := NB_y hB hNB
  rcases hg with ⟨rfl, hcw, hdw, hX⟩ | ⟨rfl, hcw, hdw, hX⟩
  · obtain ⟨r, s1, h1, hl, hf1⟩ := x_rings_5 15 n c g0 t wh st hcw hX hB
    obtain ⟨r2, s2, h2, hl2, hf2⟩ := m_rings 18 n c g0 t wh s1 (MR_fr hf1 (by decide) hR) hB
    obtain rfl := RGs_un hl hl2
    exact ⟨_, s1, s2, h1, h2, INV_s hI (KP.trans (KP.of hf1 (by decide) (by decide)) (KP.of hf2 (by decide) (by decide))) (by decide) (by decide) (IFol_k hf2 (by decide) (IFol_k hf1 (by decide) hF)) (congrFun ((hf2.2 0 (by decide)).trans (hf1.2 0 (by decide))) 12) (congrFun ((hf2.2 53 (by decide)).trans (hf1.2 53 (by decide))) 0)⟩
  · obtain ⟨r, s1, h1, hl, hf1⟩ := x_rings_13 15 n c g0 t wh st hcw hX hB
    obtain ⟨r2, s2, h2, hl2, hf2⟩ := m_rings 18 n c g0 t wh s1 (MR_fr hf1 (by decide) hR) hB
    obtain rfl := RGs_un hl hl2
    exact ⟨_, s1, s2, h1, h2, INV_s hI (KP.trans (KP.of hf1 (by decide) (by decide)) (KP.of hf2 (by decide) (by decide))) (by decide) (by decide) (IFol_k hf2 (by decide) (IFol_k hf1 (by decide) hF)) (congrFun ((hf2.2 0 (by decide)).trans (hf1.2 0 (by decide))) 12) (congrFun ((hf2.2 53 (by decide)).trans (hf1.2 53 (by decide))) 0)⟩
theorem k_meeting (a p b q wh : Int32) : CALLI 101 173 [.int a, .int p, .int b, .int q, .int wh] := by
  intro st hI
  obtain ⟨g, n, c, v, u, yd, ⟨hg, hB, hR⟩, ⟨hN, hM, hNB⟩, hT, hII, hH, hTo, hF, hL⟩ := id hI
  have hU := hNB.1
  have hyd := hNB.2.1
  obtain ⟨hyb, hyc⟩ := NB_y hB hNB
  rcases hg with ⟨rfl, hcw, hdw, hX⟩ | ⟨rfl, hcw, hdw, hX⟩
  · obtain ⟨r, s1, h1, hl, hf1⟩ := x_meeting_5 15 n c a p b q wh st hcw hX hB
    obtain ⟨r2, s2, h2, hl2, hf2, hk2, h22⟩ := m_meeting 18 n c a p b q wh s1 (MR_fr hf1 (by decide) hR) hB
    obtain rfl := MGs_un hl hl2
    exact ⟨_, s1, s2, h1, h2, INV_s hI (KP.trans (KP.of hf1 (by decide) (by decide)) (KP.of53 hf2 hk2 (by decide))) (by decide) (by decide) (IFol_k hf2 (by decide) (IFol_k hf1 (by decide) hF)) (by rw [h22]; exact congrFun (hf1.2 0 (by decide)) 12) (by rw [h22]; exact congrFun (hf1.2 53 (by decide)) 0)⟩
  · obtain ⟨r, s1, h1, hl, hf1⟩ := x_meeting_13 15 n c a p b q wh st hcw hX hB
    obtain ⟨r2, s2, h2, hl2, hf2, hk2, h22⟩ := m_meeting 18 n c a p b q wh s1 (MR_fr hf1 (by decide) hR) hB
    obtain rfl := MGs_un hl hl2
    exact ⟨_, s1, s2, h1, h2, INV_s hI (KP.trans (KP.of hf1 (by decide) (by decide)) (KP.of53 hf2 hk2 (by decide))) (by decide) (by decide) (IFol_k hf2 (by decide) (IFol_k hf1 (by decide) hF)) (by rw [h22]; exact congrFun (hf1.2 0 (by decide)) 12) (by rw [h22]; exact congrFun (hf1.2 53 (by decide)) 0)⟩
theorem k_night (q : Int32) : CALLI 104 178 [.int q] := by
  intro st hI
  obtain ⟨g, n, c, v, u, yd, ⟨hg, hB, hR⟩, ⟨hN, hM, hNB⟩, hT, hII, hH, hTo, hF, hL⟩ := id hI
  have hU := hNB.1
  have hyd := hNB.2.1
  obtain ⟨hyb, hyc⟩ := NB_y hB hNB
  obtain ⟨a, T, C, U, hA, hP, hQ⟩ := hH
  obtain ⟨s2, h2, hf2⟩ := m_night 17 a T C U q st hQ hA
  exact ⟨_, st, s2, x_night 16 a T C U q st hP hA, h2, INV_s hI (KP.of hf2 (by decide) (by decide)) (by decide) (by decide) (IFol_k hf2 (by decide) hF) (congrFun (hf2.2 0 (by decide)) 12) (congrFun (hf2.2 53 (by decide)) 0)⟩
theorem k_least : CALLI 105 179 [] := by
  intro st hI
  obtain ⟨g, n, c, v, u, yd, ⟨hg, hB, hR⟩, ⟨hN, hM, hNB⟩, hT, hII, hH, hTo, hF, hL⟩ := id hI
  have hU := hNB.1
  have hyd := hNB.2.1
  obtain ⟨hyb, hyc⟩ := NB_y hB hNB
  obtain ⟨a, T, C, U, hA, hP, hQ⟩ := hH
  obtain ⟨s2, h2, hf2⟩ := m_least 17 a T C U st hQ hA
  exact ⟨_, st, s2, x_least 16 a T C U st hP hA, h2, INV_s hI (KP.of hf2 (by decide) (by decide)) (by decide) (by decide) (IFol_k hf2 (by decide) hF) (congrFun (hf2.2 0 (by decide)) 12) (congrFun (hf2.2 53 (by decide)) 0)⟩
theorem k_throwWith (x y : Int32) : CALLI 92 150 [.int x, .int y] := by
  intro st hI
  obtain ⟨g, n, c, v, u, yd, ⟨hg, hB, hR⟩, ⟨hN, hM, hNB⟩, hT, hII, hH, hTo, hF, hL⟩ := id hI
  have hU := hNB.1
  have hyd := hNB.2.1
  obtain ⟨hyb, hyc⟩ := NB_y hB hNB
  obtain ⟨g9, hg9⟩ : ∃ g9, ((g9 = 5 ∧ st.1 0 1 = nI 5 ∧ st.1 0 2 = nI 13 ∧ X5 st n c) ∨ (g9 = 13 ∧ st.1 0 1 = nI 13 ∧ st.1 0 2 = nI 5 ∧ X13 st n c)) := ⟨g, hg⟩
  rcases hg with ⟨rfl, hcw, hdw, hX⟩ | ⟨rfl, hcw, hdw, hX⟩
  · obtain ⟨s1, h1, hN1, hf1⟩ := x_throwWith_5 15 n c v u yd x y st hcw hX hB hN hU hyd hyb
    obtain ⟨s2, h2, hM2, hf2⟩ := m_throwWithL 17 n c v u yd x y s1 (MR_fr hf1 (by decide) hR) (NM0_fr hf1 (by decide) hM) hB hU hyd hyb hyc
    have hk : KP ([21, 22, 23] ++ [65]) [] [] st s2 := KP.trans (KP.of hf1 (by decide) (by decide)) (KP.of hf2.1 (by decide) (by decide))
    exact ⟨_, s1, s2, h1, h2, g9, n, c, _, _, _, IC_k hk (by decide) (by decide) ⟨hg9, hB, hR⟩, ⟨N21_fr hf2.1 (by decide) hN1, hM2, NB_tw hB hNB⟩, IT_k hk (by decide) (by decide) hT, II_5 (KP.of hf1 (by decide) (by decide)) (by decide) (by decide) hf2 hII, IH_k hk (by decide) (by decide) hH, ITo_k hk (by decide) (by decide) hTo, IFol_k hk.1 (by decide) hF, IL_fr hk.1 (by decide) (by decide) hL⟩
  · obtain ⟨s1, h1, hN1, hf1⟩ := x_throwWith_13 15 n c v u yd x y st hcw hX hB hN hU hyd hyb
    obtain ⟨s2, h2, hM2, hf2⟩ := m_throwWithL 17 n c v u yd x y s1 (MR_fr hf1 (by decide) hR) (NM0_fr hf1 (by decide) hM) hB hU hyd hyb hyc
    have hk : KP ([21, 22, 23] ++ [65]) [] [] st s2 := KP.trans (KP.of hf1 (by decide) (by decide)) (KP.of hf2.1 (by decide) (by decide))
    exact ⟨_, s1, s2, h1, h2, g9, n, c, _, _, _, IC_k hk (by decide) (by decide) ⟨hg9, hB, hR⟩, ⟨N21_fr hf2.1 (by decide) hN1, hM2, NB_tw hB hNB⟩, IT_k hk (by decide) (by decide) hT, II_5 (KP.of hf1 (by decide) (by decide)) (by decide) (by decide) hf2 hII, IH_k hk (by decide) (by decide) hH, ITo_k hk (by decide) (by decide) hTo, IFol_k hk.1 (by decide) hF, IL_fr hk.1 (by decide) (by decide) hL⟩
theorem k_ends : CALLI 93 151 [] := by
  intro st hI
  obtain ⟨g, n, c, v, u, yd, ⟨hg, hB, hR⟩, ⟨hN, hM, hNB⟩, hT, hII, hH, hTo, hF, hL⟩ := id hI
  have hU := hNB.1
  have hyd := hNB.2.1
  obtain ⟨hyb, hyc⟩ := NB_y hB hNB
  obtain ⟨g9, hg9⟩ : ∃ g9, ((g9 = 5 ∧ st.1 0 1 = nI 5 ∧ st.1 0 2 = nI 13 ∧ X5 st n c) ∨ (g9 = 13 ∧ st.1 0 1 = nI 13 ∧ st.1 0 2 = nI 5 ∧ X13 st n c)) := ⟨g, hg⟩
  rcases hg with ⟨rfl, hcw, hdw, hX⟩ | ⟨rfl, hcw, hdw, hX⟩
  · obtain ⟨s1, h1, hN1, hf1⟩ := x_ends_5 17 n c v u yd st hcw hX hB hN hU hyd
    obtain ⟨s2, h2, hM2, hf2⟩ := m_endsL 19 n c v u s1 (MR_fr hf1 (by decide) hR) (NM0_fr hf1 (by decide) hM) hB hU
    have hk : KP ([21, 22, 23] ++ [65]) [] [] st s2 := KP.trans (KP.of hf1 (by decide) (by decide)) (KP.of hf2.1 (by decide) (by decide))
    exact ⟨_, s1, s2, h1, h2, g9, n, c, _, _, _, IC_k hk (by decide) (by decide) ⟨hg9, hB, hR⟩, ⟨N21_fr hf2.1 (by decide) hN1, hM2, NB_en hNB⟩, IT_k hk (by decide) (by decide) hT, II_5 (KP.of hf1 (by decide) (by decide)) (by decide) (by decide) hf2 hII, IH_k hk (by decide) (by decide) hH, ITo_k hk (by decide) (by decide) hTo, IFol_k hk.1 (by decide) hF, IL_fr hk.1 (by decide) (by decide) hL⟩
  · obtain ⟨s1, h1, hN1, hf1⟩ := x_ends_13 17 n c v u yd st hcw hX hB hN hU hyd
    obtain ⟨s2, h2, hM2, hf2⟩ := m_endsL 19 n c v u s1 (MR_fr hf1 (by decide) hR) (NM0_fr hf1 (by decide) hM) hB hU
    have hk : KP ([21, 22, 23] ++ [65]) [] [] st s2 := KP.trans (KP.of hf1 (by decide) (by decide)) (KP.of hf2.1 (by decide) (by decide))
    exact ⟨_, s1, s2, h1, h2, g9, n, c, _, _, _, IC_k hk (by decide) (by decide) ⟨hg9, hB, hR⟩, ⟨N21_fr hf2.1 (by decide) hN1, hM2, NB_en hNB⟩, IT_k hk (by decide) (by decide) hT, II_5 (KP.of hf1 (by decide) (by decide)) (by decide) (by decide) hf2 hII, IH_k hk (by decide) (by decide) hH, ITo_k hk (by decide) (by decide) hTo, IFol_k hk.1 (by decide) hF, IL_fr hk.1 (by decide) (by decide) hL⟩
theorem k_breaks (x : Int32) : CALLI 94 152 [.int x] := by
  intro st hI
  obtain ⟨g, n, c, v, u, yd, ⟨hg, hB, hR⟩, ⟨hN, hM, hNB⟩, hT, hII, hH, hTo, hF, hL⟩ := id hI
  have hU := hNB.1
  have hyd := hNB.2.1
  obtain ⟨hyb, hyc⟩ := NB_y hB hNB
  obtain ⟨g9, hg9⟩ : ∃ g9, ((g9 = 5 ∧ st.1 0 1 = nI 5 ∧ st.1 0 2 = nI 13 ∧ X5 st n c) ∨ (g9 = 13 ∧ st.1 0 1 = nI 13 ∧ st.1 0 2 = nI 5 ∧ X13 st n c)) := ⟨g, hg⟩
  rcases hg with ⟨rfl, hcw, hdw, hX⟩ | ⟨rfl, hcw, hdw, hX⟩
  · obtain ⟨s1, h1, hN1, hf1⟩ := x_breaks_5 17 n c v u yd x st hcw hX hB hN hU hyd
    obtain ⟨s2, h2, hM2, hf2⟩ := m_breaksL 17 n c v u x s1 (MR_fr hf1 (by decide) hR) (NM0_fr hf1 (by decide) hM) hB hU
    have hk : KP ([21, 22, 23] ++ [65]) [] [] st s2 := KP.trans (KP.of hf1 (by decide) (by decide)) (KP.of hf2.1 (by decide) (by decide))
    exact ⟨_, s1, s2, h1, h2, g9, n, c, _, _, _, IC_k hk (by decide) (by decide) ⟨hg9, hB, hR⟩, ⟨N21_fr hf2.1 (by decide) hN1, hM2, NB_br hB hNB⟩, IT_k hk (by decide) (by decide) hT, II_5 (KP.of hf1 (by decide) (by decide)) (by decide) (by decide) hf2 hII, IH_k hk (by decide) (by decide) hH, ITo_k hk (by decide) (by decide) hTo, IFol_k hk.1 (by decide) hF, IL_fr hk.1 (by decide) (by decide) hL⟩
  · obtain ⟨s1, h1, hN1, hf1⟩ := x_breaks_13 17 n c v u yd x st hcw hX hB hN hU hyd
    obtain ⟨s2, h2, hM2, hf2⟩ := m_breaksL 17 n c v u x s1 (MR_fr hf1 (by decide) hR) (NM0_fr hf1 (by decide) hM) hB hU
    have hk : KP ([21, 22, 23] ++ [65]) [] [] st s2 := KP.trans (KP.of hf1 (by decide) (by decide)) (KP.of hf2.1 (by decide) (by decide))
    exact ⟨_, s1, s2, h1, h2, g9, n, c, _, _, _, IC_k hk (by decide) (by decide) ⟨hg9, hB, hR⟩, ⟨N21_fr hf2.1 (by decide) hN1, hM2, NB_br hB hNB⟩, IT_k hk (by decide) (by decide) hT, II_5 (KP.of hf1 (by decide) (by decide)) (by decide) (by decide) hf2 hII, IH_k hk (by decide) (by decide) hH, ITo_k hk (by decide) (by decide) hTo, IFol_k hk.1 (by decide) hF, IL_fr hk.1 (by decide) (by decide) hL⟩
theorem k_anew : CALLI 96 154 [] := by
  intro st hI
  obtain ⟨g, n, c, v, u, yd, ⟨hg, hB, hR⟩, ⟨hN, hM, hNB⟩, hT, hII, hH, hTo, hF, hL⟩ := id hI
  have hU := hNB.1
  have hyd := hNB.2.1
  obtain ⟨hyb, hyc⟩ := NB_y hB hNB
  obtain ⟨g9, hg9⟩ : ∃ g9, ((g9 = 5 ∧ st.1 0 1 = nI 5 ∧ st.1 0 2 = nI 13 ∧ X5 st n c) ∨ (g9 = 13 ∧ st.1 0 1 = nI 13 ∧ st.1 0 2 = nI 5 ∧ X13 st n c)) := ⟨g, hg⟩
  obtain ⟨s1, h1, hN1, hf1⟩ := x_anew 17 v u yd st hN
  obtain ⟨s2, h2, hM2, hf2⟩ := m_anewL 19 v u s1 (NM0_fr hf1 (by decide) hM)
  have hk : KP ([21, 22, 23] ++ [65]) [] [] st s2 := KP.trans (KP.of hf1 (by decide) (by decide)) (KP.of hf2.1 (by decide) (by decide))
  exact ⟨_, s1, s2, h1, h2, g9, n, c, _, _, _, IC_k hk (by decide) (by decide) ⟨hg9, hB, hR⟩, ⟨N21_fr hf2.1 (by decide) hN1, hM2, NB_0 hB⟩, IT_k hk (by decide) (by decide) hT, II_5 (KP.of hf1 (by decide) (by decide)) (by decide) (by decide) hf2 hII, IH_k hk (by decide) (by decide) hH, ITo_k hk (by decide) (by decide) hTo, IFol_k hk.1 (by decide) hF, IL_fr hk.1 (by decide) (by decide) hL⟩
theorem k_back_0 (st : mSt) (hI : INV st) : ∃ (r : Int32) (s1 s2 : mSt), mMC mT 20 111 [.ref 0, .int 0] st (some (.int r)) s1 ∧ mMC mT 20 187 [.ref 53, .int 0] s1 (some (.int r)) s2 ∧ INV s2 := by
  obtain ⟨g, n, c, v, u, yd, ⟨hg, hB, hR⟩, ⟨hN, hM, hNB⟩, hT, hII, hH, hTo, hF, hL⟩ := id hI
  obtain ⟨kb, hk4, hkb, h6, h7, h8, h9⟩ := id hII
  by_cases hbit : kb.testBit 0 = true
  · obtain ⟨v', u', yd', hN', hM', hNB'⟩ := h8 hbit
    obtain ⟨s1, h1, hN1, hf1⟩ := x_back_0 17 v' u' yd' kb st hN' hkb hk4 hbit
    obtain ⟨s2, h2, hM2, hm1, hm2, hf2⟩ := m_back_0 18 v' u' s1 (NM1_fr hf1 (by decide) hM') (by rw [hf1.1 66 (by decide)]; exact (h6).trans (pI_t hbit))
    have hk : KP ([21, 22, 23] ++ [65]) [] [] st s2 := KP.trans (KP.of hf1 (by decide) (by decide)) (KP.of hf2 (by decide) (by decide))
    refine ⟨_, s1, s2, h1, h2, g, n, c, v', u', yd', IC_k hk (by decide) (by decide) ⟨hg, hB, hR⟩, ⟨N21_fr hf2 (by decide) hN1, hM2, hNB'⟩, IT_k hk (by decide) (by decide) hT, ?_, IH_k hk (by decide) (by decide) hH, ITo_k hk (by decide) (by decide) hTo, IFol_k hk.1 (by decide) hF, IL_fr hk.1 (by decide) (by decide) hL⟩
    obtain ⟨kb, hk4, hkb, h6, h7, h8, h9⟩ := II_k (KP.of hf1 (by decide) (by decide)) (by decide) (by decide) hII
    refine ⟨kb, hk4, by rw [hf2.1 0 (by decide)]; exact hkb, by rw [hf2.1 66 (by decide)]; exact h6, by rw [hf2.1 66 (by decide)]; exact h7, fun q => ?_, fun q => ?_⟩
    · obtain ⟨v, u, yd, a, b, e⟩ := h8 q
      exact ⟨v, u, yd, N25_fr hf2 (by decide) a, hm1 _ _ b, e⟩
    · obtain ⟨v, u, yd, a, b, e⟩ := h9 q
      exact ⟨v, u, yd, N28_fr hf2 (by decide) a, hm2 _ _ b, e⟩
  · exact ⟨_, st, st, x_back_none_0 17 kb st hkb hk4 hbit, m_back_none_0 18 st ((h6).trans (pI_f hbit)), hI⟩
theorem k_keep_0 (st : mSt) (hI : INV st) : ∃ (r : Int32) (s1 s2 : mSt), mMC mT 20 110 [.ref 0, .int 0] st (some (.int r)) s1 ∧ mMC mT 20 186 [.ref 53, .int 0] s1 (some (.int r)) s2 ∧ INV s2 := by
  obtain ⟨g, n, c, v, u, yd, ⟨hg, hB, hR⟩, ⟨hN, hM, hNB⟩, hT, hII, hH, hTo, hF, hL⟩ := id hI
  obtain ⟨kb, hk4, hkb, h6, h7, h8, h9⟩ := id hII
  obtain ⟨s1, h1, hN1, hkb1, hf1, hk1, hl1⟩ := x_keep_0 17 v u yd kb st hN hkb
  obtain ⟨s2, h2, hMi, hM0, hMo, h61, h62, hf2⟩ := m_keep_0 18 v u s1 (NM0_fr hf1 (by decide) hM)
  have hk : KP ([0, 25, 26, 27] ++ [65, 66]) ([5] ++ []) ([] ++ []) st s2 := KP.trans (KP.of0 hf1 hk1 (by decide)) (KP.of hf2 (by decide) (by decide))
  have hbt : ∀ j, (kb ||| 2 ^ 0).testBit j = true ↔ kb.testBit j = true ∨ j = 0 := fun j => tb_or kb 0 j
  refine ⟨_, s1, s2, h1, h2, g, n, c, v, u, yd, IC_k hk (by decide) (by decide) ⟨hg, hB, hR⟩, ⟨N21_fr hk.1 (by decide) hN, hM0, hNB⟩, IT_k hk (by decide) (by decide) hT, ?_, IH_k hk (by decide) (by decide) hH, ITo_k hk (by decide) (by decide) hTo, IFol_k hk.1 (by decide) hF, IL_k (by rw [hf2.2 0 (by decide), hl1]) (by rw [hf2.2 53 (by decide), hf1.2 53 (by decide)]) hL⟩
  refine ⟨kb ||| 2 ^ 0, or_lt (m := 2) hk4 (by decide), by rw [hf2.1 0 (by decide)]; exact hkb1, h61.trans (pI_t ((hbt 0).mpr (Or.inr rfl))).symm, (h62.trans ((congrFun (hf1.1 66 (by decide)) 1).trans h7)).trans (pI_cong ⟨fun q => (hbt 1).mpr (Or.inl q), fun q => ((hbt 1).mp q).elim id (fun e => absurd e (by decide))⟩), fun q => ?_, fun q => ?_⟩
  · exact ⟨v, u, yd, N25_fr hf2 (by decide) hN1, hMi, hNB⟩
  · obtain ⟨v, u, yd, a, b, e⟩ := h9 (((hbt 1).mp q).elim id (fun e => absurd e (by decide)))
    exact ⟨v, u, yd, N28_fr hk.1 (by decide) a, hMo _ _ (NM2_fr hf1 (by decide) b), e⟩
theorem k_back_1 (st : mSt) (hI : INV st) : ∃ (r : Int32) (s1 s2 : mSt), mMC mT 20 111 [.ref 0, .int 1] st (some (.int r)) s1 ∧ mMC mT 20 187 [.ref 53, .int 1] s1 (some (.int r)) s2 ∧ INV s2 := by
  obtain ⟨g, n, c, v, u, yd, ⟨hg, hB, hR⟩, ⟨hN, hM, hNB⟩, hT, hII, hH, hTo, hF, hL⟩ := id hI
  obtain ⟨kb, hk4, hkb, h6, h7, h8, h9⟩ := id hII
  by_cases hbit : kb.testBit 1 = true
  · obtain ⟨v', u', yd', hN', hM', hNB'⟩ := h9 hbit
    obtain ⟨s1, h1, hN1, hf1⟩ := x_back_1 17 v' u' yd' kb st hN' hkb hk4 hbit
    obtain ⟨s2, h2, hM2, hm1, hm2, hf2⟩ := m_back_1 18 v' u' s1 (NM2_fr hf1 (by decide) hM') (by rw [hf1.1 66 (by decide)]; exact (h7).trans (pI_t hbit))
    have hk : KP ([21, 22, 23] ++ [65]) [] [] st s2 := KP.trans (KP.of hf1 (by decide) (by decide)) (KP.of hf2 (by decide) (by decide))
    refine ⟨_, s1, s2, h1, h2, g, n, c, v', u', yd', IC_k hk (by decide) (by decide) ⟨hg, hB, hR⟩, ⟨N21_fr hf2 (by decide) hN1, hM2, hNB'⟩, IT_k hk (by decide) (by decide) hT, ?_, IH_k hk (by decide) (by decide) hH, ITo_k hk (by decide) (by decide) hTo, IFol_k hk.1 (by decide) hF, IL_fr hk.1 (by decide) (by decide) hL⟩
    obtain ⟨kb, hk4, hkb, h6, h7, h8, h9⟩ := II_k (KP.of hf1 (by decide) (by decide)) (by decide) (by decide) hII
    refine ⟨kb, hk4, by rw [hf2.1 0 (by decide)]; exact hkb, by rw [hf2.1 66 (by decide)]; exact h6, by rw [hf2.1 66 (by decide)]; exact h7, fun q => ?_, fun q => ?_⟩
    · obtain ⟨v, u, yd, a, b, e⟩ := h8 q
      exact ⟨v, u, yd, N25_fr hf2 (by decide) a, hm1 _ _ b, e⟩
    · obtain ⟨v, u, yd, a, b, e⟩ := h9 q
      exact ⟨v, u, yd, N28_fr hf2 (by decide) a, hm2 _ _ b, e⟩
  · exact ⟨_, st, st, x_back_none_1 17 kb st hkb hk4 hbit, m_back_none_1 18 st ((h7).trans (pI_f hbit)), hI⟩
theorem k_keep_1 (st : mSt) (hI : INV st) : ∃ (r : Int32) (s1 s2 : mSt), mMC mT 20 110 [.ref 0, .int 1] st (some (.int r)) s1 ∧ mMC mT 20 186 [.ref 53, .int 1] s1 (some (.int r)) s2 ∧ INV s2 := by
  obtain ⟨g, n, c, v, u, yd, ⟨hg, hB, hR⟩, ⟨hN, hM, hNB⟩, hT, hII, hH, hTo, hF, hL⟩ := id hI
  obtain ⟨kb, hk4, hkb, h6, h7, h8, h9⟩ := id hII
  obtain ⟨s1, h1, hN1, hkb1, hf1, hk1, hl1⟩ := x_keep_1 17 v u yd kb st hN hkb
  obtain ⟨s2, h2, hMi, hM0, hMo, h61, h62, hf2⟩ := m_keep_1 18 v u s1 (NM0_fr hf1 (by decide) hM)
  have hk : KP ([0, 28, 29, 30] ++ [65, 66]) ([5] ++ []) ([] ++ []) st s2 := KP.trans (KP.of0 hf1 hk1 (by decide)) (KP.of hf2 (by decide) (by decide))
  have hbt : ∀ j, (kb ||| 2 ^ 1).testBit j = true ↔ kb.testBit j = true ∨ j = 1 := fun j => tb_or kb 1 j
  refine ⟨_, s1, s2, h1, h2, g, n, c, v, u, yd, IC_k hk (by decide) (by decide) ⟨hg, hB, hR⟩, ⟨N21_fr hk.1 (by decide) hN, hM0, hNB⟩, IT_k hk (by decide) (by decide) hT, ?_, IH_k hk (by decide) (by decide) hH, ITo_k hk (by decide) (by decide) hTo, IFol_k hk.1 (by decide) hF, IL_k (by rw [hf2.2 0 (by decide), hl1]) (by rw [hf2.2 53 (by decide), hf1.2 53 (by decide)]) hL⟩
  refine ⟨kb ||| 2 ^ 1, or_lt (m := 2) hk4 (by decide), by rw [hf2.1 0 (by decide)]; exact hkb1, (h62.trans ((congrFun (hf1.1 66 (by decide)) 0).trans h6)).trans (pI_cong ⟨fun q => (hbt 0).mpr (Or.inl q), fun q => ((hbt 0).mp q).elim id (fun e => absurd e (by decide))⟩), h61.trans (pI_t ((hbt 1).mpr (Or.inr rfl))).symm, fun q => ?_, fun q => ?_⟩
  · obtain ⟨v, u, yd, a, b, e⟩ := h8 (((hbt 0).mp q).elim id (fun e => absurd e (by decide)))
    exact ⟨v, u, yd, N25_fr hk.1 (by decide) a, hMo _ _ (NM1_fr hf1 (by decide) b), e⟩
  · exact ⟨v, u, yd, N28_fr hf2 (by decide) hN1, hMi, hNB⟩
theorem k_keep (x : Int32) : CALLI 110 186 [.int x] := by
  intro st hI
  by_cases hx : 0 ≤ x ∧ x < 2
  · rcases i01 hx with rfl | rfl
    · exact k_keep_0 st hI
    · exact k_keep_1 st hI
  · exact ⟨_, st, st, x_keep_no 17 x st hx, m_keep_no 18 x st hx, hI⟩
theorem k_back (x : Int32) : CALLI 111 187 [.int x] := by
  intro st hI
  by_cases hx : 0 ≤ x ∧ x < 2
  · rcases i01 hx with rfl | rfl
    · exact k_back_0 st hI
    · exact k_back_1 st hI
  · exact ⟨_, st, st, x_back_no 17 x st hx, m_back_no 18 x st hx, hI⟩
theorem k_mark (w x : Int32) : CALLI 109 184 [.int w, .int x] := by
  intro st hI
  obtain ⟨g, n, c, v, u, yd, ⟨hg, hB, hR⟩, ⟨hN, hM, hNB⟩, hT, hII, hH, hTo, hF, hL⟩ := id hI
  have hU := hNB.1
  have hyd := hNB.2.1
  obtain ⟨hyb, hyc⟩ := NB_y hB hNB
  have hk : KP [0, 53] [] [] st (tU (tU st 0 12 (mk_t n w x)) 53 0 (mk_t n w x)) := ⟨⟨fun _ _ => rfl, fun p hp => (mUL_ne (fun e => hp (by rw [e]; decide))).trans (mUL_ne (fun e => hp (by rw [e]; decide)))⟩, fun _ _ => rfl, fun _ _ => rfl⟩
  have hl1 : (tU (tU st 0 12 (mk_t n w x)) 53 0 (mk_t n w x)).2 0 12 = st.2 0 12 + mk_t n w x := (congrFun ((tU_fr (st := tU st 0 12 (mk_t n w x)) (p := 53) (k := 0) (t := mk_t n w x)).2.1 0 (by decide)) 12).trans (tU_fr (st := st) (p := 0) (k := 12) (t := mk_t n w x)).2.2
  have hl2 : (tU (tU st 0 12 (mk_t n w x)) 53 0 (mk_t n w x)).2 53 0 = st.2 53 0 + mk_t n w x := (tU_fr (st := tU st 0 12 (mk_t n w x)) (p := 53) (k := 0) (t := mk_t n w x)).2.2.trans (congrArg (fun z => z + mk_t n w x) (congrFun ((tU_fr (st := st) (p := 0) (k := 12) (t := mk_t n w x)).2.1 53 (by decide)) 0))
  have hfin : INV (tU (tU st 0 12 (mk_t n w x)) 53 0 (mk_t n w x)) := ⟨g, n, c, v, u, yd, IC_k hk (by decide) (by decide) ⟨hg, hB, hR⟩, INn_k hk.1 (by decide) ⟨hN, hM, hNB⟩, IT_k hk (by decide) (by decide) hT, II_k hk (by decide) (by decide) hII, IH_k hk (by decide) (by decide) hH, ITo_k hk (by decide) (by decide) hTo, IFol_k hk.1 (by decide) hF, by unfold IL; rw [hl1, hl2, show st.2 0 12 = st.2 53 0 from hL]⟩
  rcases hg with ⟨rfl, hcw, hdw, hX⟩ | ⟨rfl, hcw, hdw, hX⟩
  · exact ⟨_, _, _, x_mark_5 15 n c v u yd w x st hcw hX hB hN hU, m_mark 17 n c v u w x (tU st 0 12 (mk_t n w x)) hR hM hB hU, hfin⟩
  · exact ⟨_, _, _, x_mark_13 15 n c v u yd w x st hcw hX hB hN hU, m_mark 17 n c v u w x (tU st 0 12 (mk_t n w x)) hR hM hB hU, hfin⟩
theorem k_type (x : Int64) (n0 : Int32) : CALLI 85 131 [.long x, .int n0] := by
  intro st hI
  obtain ⟨g, n, c, v, u, yd, ⟨hg, hB, hR⟩, ⟨hN, hM, hNB⟩, hT, hII, hH, hTo, hF, hL⟩ := id hI
  have hU := hNB.1
  have hyd := hNB.2.1
  obtain ⟨hyb, hyc⟩ := NB_y hB hNB
  obtain ⟨L, b, hXS, hMS, hL3, hb⟩ := hT
  obtain ⟨s1, h1, hX1, hf1, hk1⟩ := x_type 17 x n0 L b st hXS hL3
  obtain ⟨s2, h2, hM2, hf2, hk2, h22⟩ := m_typeL 18 x n0 L b s1 (MS_fr hf1 (by decide) (by rw [hf1.1 53 (by decide)]) hMS) hL3
  have hk : KP ([1, 2] ++ [53, 54]) ([] ++ []) ([] ++ [2]) st s2 := KP.trans (KP.of hf1 (by decide) (by decide)) (KP.of53 hf2 hk2 (by decide))
  have h300 : L + ty_n L n0 ≤ 300 := by
    unfold ty_n
    split
    · rename_i h
      exact h.2
    · exact hL3
  exact ⟨_, s1, s2, h1, h2, g, n, c, v, u, yd, IC_k hk (by decide) (by decide) ⟨hg, hB, hR⟩, INn_k hk.1 (by decide) ⟨hN, hM, hNB⟩, ⟨_, _, XS_fr hf2 (by decide) (by rw [hf2.1 1 (by decide)]) hX1, hM2, h300, app_lt _ b L hb⟩, II_k hk (by decide) (by decide) hII, IH_k hk (by decide) (by decide) hH, ITo_k hk (by decide) (by decide) hTo, IFol_k hk.1 (by decide) hF, IL_k (by rw [h22, hf1.2 0 (by decide)]) (by rw [h22, hf1.2 53 (by decide)]) hL⟩
theorem k_clear : CALLI 86 132 [] := by
  intro st hI
  obtain ⟨g, n, c, v, u, yd, ⟨hg, hB, hR⟩, ⟨hN, hM, hNB⟩, hT, hII, hH, hTo, hF, hL⟩ := id hI
  have hU := hNB.1
  have hyd := hNB.2.1
  obtain ⟨hyb, hyc⟩ := NB_y hB hNB
  obtain ⟨L, b, hXS, hMS, hL3, hb⟩ := hT
  obtain ⟨s1, h1, hX1, hf1, hk1⟩ := x_clear 18 L b st hXS
  obtain ⟨s2, h2, hM2, hf2, hk2, h22⟩ := m_clearL 19 L b s1 (MS_fr hf1 (by decide) (by rw [hf1.1 53 (by decide)]) hMS)
  have hk : KP ([1, 2] ++ [53, 54]) ([] ++ []) ([] ++ [2]) st s2 := KP.trans (KP.of hf1 (by decide) (by decide)) (KP.of53 hf2 hk2 (by decide))
  exact ⟨_, s1, s2, h1, h2, g, n, c, v, u, yd, IC_k hk (by decide) (by decide) ⟨hg, hB, hR⟩, INn_k hk.1 (by decide) ⟨hN, hM, hNB⟩, ⟨0, b, XS_fr hf2 (by decide) (by rw [hf2.1 1 (by decide)]) hX1, hM2, Nat.zero_le _, fun j hj => absurd hj (Nat.not_lt_zero _)⟩, II_k hk (by decide) (by decide) hII, IH_k hk (by decide) (by decide) hH, ITo_k hk (by decide) (by decide) hTo, IFol_k hk.1 (by decide) hF, IL_k (by rw [h22, hf1.2 0 (by decide)]) (by rw [h22, hf1.2 53 (by decide)]) hL⟩
theorem k_hole (t c0 u0 : Int32) : CALLI 103 175 [.int t, .int c0, .int u0] := by
  intro st hI
  obtain ⟨g, n, c, v, u, yd, ⟨hg, hB, hR⟩, ⟨hN, hM, hNB⟩, hT, hII, hH, hTo, hF, hL⟩ := id hI
  have hU := hNB.1
  have hyd := hNB.2.1
  obtain ⟨hyb, hyc⟩ := NB_y hB hNB
  obtain ⟨a, T, C, U, hA, hP, hQ⟩ := hH
  obtain ⟨s1, h1, hX1, hf1⟩ := x_hole 17 a T C U t c0 u0 st hP hA.1
  obtain ⟨s2, h2, hM2, hf2, hk2, h22⟩ := m_holeL 18 a T C U t c0 u0 s1 (MH_fr hf1 (by decide) (by rw [hf1.1 53 (by decide)]) hQ) hA.1
  have hk : KP ([45, 46, 47, 48] ++ [53, 79, 80, 81]) ([] ++ []) ([] ++ [33]) st s2 := KP.trans (KP.of hf1 (by decide) (by decide)) (KP.of53 hf2 hk2 (by decide))
  exact ⟨_, s1, s2, h1, h2, g, n, c, v, u, yd, IC_k hk (by decide) (by decide) ⟨hg, hB, hR⟩, INn_k hk.1 (by decide) ⟨hN, hM, hNB⟩, IT_k hk (by decide) (by decide) hT, II_k hk (by decide) (by decide) hII, ⟨_, _, _, _, HBd_add hA, XH_fr hf2 (by decide) (by rw [hf2.1 45 (by decide)]) hX1, hM2⟩, ITo_k hk (by decide) (by decide) hTo, IFol_k hk.1 (by decide) hF, IL_k (by rw [h22, hf1.2 0 (by decide)]) (by rw [h22, hf1.2 53 (by decide)]) hL⟩
theorem k_dry : CALLI 106 180 [] := by
  intro st hI
  obtain ⟨g, n, c, v, u, yd, ⟨hg, hB, hR⟩, ⟨hN, hM, hNB⟩, hT, hII, hH, hTo, hF, hL⟩ := id hI
  have hU := hNB.1
  have hyd := hNB.2.1
  obtain ⟨hyb, hyc⟩ := NB_y hB hNB
  obtain ⟨a, T, C, U, hA, hP, hQ⟩ := hH
  obtain ⟨s1, h1, hX1, hf1⟩ := x_dry 19 a T C U st hP
  obtain ⟨s2, h2, hM2, hf2, hk2, h22⟩ := m_dryL 19 a T C U s1 (MH_fr hf1 (by decide) (by rw [hf1.1 53 (by decide)]) hQ)
  have hk : KP ([45, 46, 47, 48] ++ [53, 79, 80, 81]) ([] ++ []) ([] ++ [33]) st s2 := KP.trans (KP.of hf1 (by decide) (by decide)) (KP.of53 hf2 hk2 (by decide))
  exact ⟨_, s1, s2, h1, h2, g, n, c, v, u, yd, IC_k hk (by decide) (by decide) ⟨hg, hB, hR⟩, INn_k hk.1 (by decide) ⟨hN, hM, hNB⟩, IT_k hk (by decide) (by decide) hT, II_k hk (by decide) (by decide) hII, ⟨0, T, C, U, ⟨Nat.zero_le _, fun k hk => absurd hk (Nat.not_lt_zero _)⟩, XH_fr hf2 (by decide) (by rw [hf2.1 45 (by decide)]) hX1, hM2⟩, ITo_k hk (by decide) (by decide) hTo, IFol_k hk.1 (by decide) hF, IL_k (by rw [h22, hf1.2 0 (by decide)]) (by rw [h22, hf1.2 53 (by decide)]) hL⟩
theorem k_tell (r x y : Int32) : CALLI 107 181 [.int r, .int x, .int y] := by
  intro st hI
  obtain ⟨g, n, c, v, u, yd, ⟨hg, hB, hR⟩, ⟨hN, hM, hNB⟩, hT, hII, hH, hTo, hF, hL⟩ := id hI
  have hU := hNB.1
  have hyd := hNB.2.1
  obtain ⟨hyb, hyc⟩ := NB_y hB hNB
  obtain ⟨a, T, C, U, hA, hP, hQ⟩ := hTo
  have hx : ∃ s1, mMC mT 20 107 [.ref 0, .int r, .int x, .int y] st (some (.int (sp_tell n a r x y))) s1 ∧ XT s1 (tl_a n a r x y) (updN T a r.toNatClampNeg) (updN C a x.toNatClampNeg) (updN U a y.toNatClampNeg) ∧ Fr [49, 50, 51, 52] st s1 := by
    rcases hg with ⟨rfl, hcw, hdw, hX⟩ | ⟨rfl, hcw, hdw, hX⟩
    · exact x_tell_5 17 n c a T C U r x y st hcw hX hB hP hA.1
    · exact x_tell_13 17 n c a T C U r x y st hcw hX hB hP hA.1
  obtain ⟨s1, h1, hX1, hf1⟩ := hx
  obtain ⟨s2, h2, hM2, hf2, hk2, h22⟩ := m_tellL 17 n c a T C U r x y s1 (MR_fr hf1 (by decide) hR) hB (MT_fr hf1 (by decide) (by rw [hf1.1 53 (by decide)]) hQ) hA.1
  have hk : KP ([49, 50, 51, 52] ++ [53, 83, 84, 85]) ([] ++ []) ([] ++ [38]) st s2 := KP.trans (KP.of hf1 (by decide) (by decide)) (KP.of53 hf2 hk2 (by decide))
  exact ⟨_, s1, s2, h1, h2, g, n, c, v, u, yd, IC_k hk (by decide) (by decide) ⟨hg, hB, hR⟩, INn_k hk.1 (by decide) ⟨hN, hM, hNB⟩, IT_k hk (by decide) (by decide) hT, II_k hk (by decide) (by decide) hII, IH_k hk (by decide) (by decide) hH, ⟨_, _, _, _, TB_add hB.1 hB.2.1 hA, XT_fr hf2 (by decide) (by rw [hf2.1 49 (by decide)]) hX1, hM2⟩, IFol_k hk.1 (by decide) hF, IL_k (by rw [h22, hf1.2 0 (by decide)]) (by rw [h22, hf1.2 53 (by decide)]) hL⟩
theorem k_gang : CALLI 87 140 [] := by
  intro st hI
  obtain ⟨g, n, c, v, u, yd, ⟨hg, hB, hR⟩, ⟨hN, hM, hNB⟩, hT, hII, hH, hTo, hF, hL⟩ := id hI
  have hU := hNB.1
  have hyd := hNB.2.1
  obtain ⟨hyb, hyc⟩ := NB_y hB hNB
  obtain ⟨L, b, hXS, hMS, hL3, hb⟩ := hT
  rcases hg with ⟨rfl, hcw, hdw, hX⟩ | ⟨rfl, hcw, hdw, hX⟩
  · obtain ⟨q, s1, h1, hrd, ha, hb1⟩ := x_gang_5 10 L b st hcw hdw hXS hb hL3
    have hS1 : Fr [0, 1, 2, 3, 4, 13, 14, 15, 16, 17, 18, 19, 20, 21, 22, 23, 49] st s1 := by
      rcases hq : q.p.2 with _ | _
      · exact (hb1 hq).2.2.2.2.2.2.2.1
      · exact Fr.mono (ha hq).1 (by decide)
    obtain ⟨q2, s2, h2, hrd2, ha2, hb2⟩ := m_gang 14 L b v u s1 (MS_fr hS1 (by decide) (by rw [hS1.1 53 (by decide)]) hMS) hb hL3 (NM0_fr hS1 (by decide) hM)
    obtain rfl := RDR_un hrd hrd2
    refine ⟨_, s1, s2, h1, h2, ?_⟩
    have hcb := RDR_CB hrd
    rcases hq : q.p.2 with _ | _
    · obtain ⟨b1, b2, b3, b4, b5, b6, b7, b8, b9⟩ := hb1 hq
      obtain ⟨d1, d2, d3, d4, d5, d6, d7, d8, d9⟩ := hb2 hq
      have hf : Fr ([0, 1, 2, 3, 4, 13, 14, 15, 16, 17, 18, 19, 20, 21, 22, 23, 49] ++ [53, 55, 56, 57, 58, 59, 60, 61, 62, 63, 64, 65, 66]) st s2 := Fr.trans (Fr.mono b8 (by decide)) (Fr.mono d7 (by decide))
      have hk53 : Fk 53 [2, 13, 14, 15, 16, 17, 38] st s2 := fun j hj => (d8 j hj).trans (by rw [b8.1 53 (by decide)])
      refine ⟨13, q.n, q.c, fun _ => 0, fun _ => 0, 0, ⟨Or.inr ⟨rfl, by rw [d7.1 0 (by decide)]; exact b1, by rw [d7.1 0 (by decide)]; exact b2, X13_fr d7 (by decide) b3⟩, hcb, d1⟩, ⟨N21_fr d7 (by decide) b4, d2, NB_0 hcb⟩, ⟨0, b, ⟨by rw [d7.1 1 (by decide)]; exact b5, fun j hj => absurd hj (Nat.not_lt_zero _)⟩, ⟨d6, fun j hj => absurd hj (Nat.not_lt_zero _)⟩, Nat.zero_le _, fun j hj => absurd hj (Nat.not_lt_zero _)⟩, ⟨0, by decide, by rw [d7.1 0 (by decide)]; exact b7, d4, d5, fun e => absurd e (by decide), fun e => absurd e (by decide)⟩, ?_, ⟨0, fun _ => 0, fun _ => 0, fun _ => 0, ⟨Nat.zero_le _, fun k hk => absurd hk (Nat.not_lt_zero _)⟩, ⟨by rw [d7.1 49 (by decide)]; exact b6, fun k hk => absurd hk (Nat.not_lt_zero _)⟩, ⟨d3, fun k hk => absurd hk (Nat.not_lt_zero _)⟩⟩, IFol_k hf (by decide) hF, IL_k (by rw [d7.2 0 (by decide), b9]) (by rw [d9, b8.2 53 (by decide)]) hL⟩
      obtain ⟨a, T, C, U, hA, hP, hQ⟩ := hH
      exact ⟨a, T, C, U, hA, XH_fr hf (by decide) (by rw [hf.1 45 (by decide)]) hP, MH_fr hf (by decide) (hk53 33 (by decide)) hQ⟩
    · have f1 := ha hq
      obtain ⟨e1, e2⟩ := ha2 hq
      have hk : KP ([1, 3, 4, 13, 14, 15, 16, 17, 18, 19, 20] ++ [53, 55, 56, 57, 58, 59, 60, 61, 62, 63, 64]) ([] ++ []) ([] ++ [13, 14, 15, 16, 17]) st s2 := KP.trans (KP.of f1.1 (by decide) (by decide)) (KP.of53 e2.1 e2.2.1 (by decide))
      exact ⟨5, n, c, v, u, yd, ⟨Or.inl ⟨rfl, by rw [hk.1.1 0 (by decide)]; exact hcw, by rw [hk.1.1 0 (by decide)]; exact hdw, X5_fr hk.1 (by decide) hX⟩, hB, MR_Rl e1 hB (MR_fr f1.1 (by decide) hR)⟩, INn_k hk.1 (by decide) ⟨hN, hM, hNB⟩, ⟨L, b, ⟨by rw [e2.1.1 1 (by decide)]; exact (f1.2.1 0 (by decide)).trans hXS.1, fun j hj => by rw [hk.1.1 2 (by decide)]; exact hXS.2 j hj⟩, MS_fr hk.1 (by decide) (hk.2.2 2 (by decide)) hMS, hL3, hb⟩, II_k hk (by decide) (by decide) hII, IH_k hk (by decide) (by decide) hH, ITo_k hk (by decide) (by decide) hTo, IFol_k hk.1 (by decide) hF, IL_k (by rw [e2.2.2, f1.2.2]) (by rw [e2.2.2, f1.2.2]) hL⟩
  · obtain ⟨q, s1, h1, hrd, ha, hb1⟩ := x_gang_13 10 L b st hcw hdw hXS hb hL3
    have hS1 : Fr [0, 1, 2, 3, 4, 5, 6, 7, 8, 9, 10, 11, 12, 21, 22, 23, 49] st s1 := by
      rcases hq : q.p.2 with _ | _
      · exact (hb1 hq).2.2.2.2.2.2.2.1
      · exact Fr.mono (ha hq).1 (by decide)
    obtain ⟨q2, s2, h2, hrd2, ha2, hb2⟩ := m_gang 14 L b v u s1 (MS_fr hS1 (by decide) (by rw [hS1.1 53 (by decide)]) hMS) hb hL3 (NM0_fr hS1 (by decide) hM)
    obtain rfl := RDR_un hrd hrd2
    refine ⟨_, s1, s2, h1, h2, ?_⟩
    have hcb := RDR_CB hrd
    rcases hq : q.p.2 with _ | _
    · obtain ⟨b1, b2, b3, b4, b5, b6, b7, b8, b9⟩ := hb1 hq
      obtain ⟨d1, d2, d3, d4, d5, d6, d7, d8, d9⟩ := hb2 hq
      have hf : Fr ([0, 1, 2, 3, 4, 5, 6, 7, 8, 9, 10, 11, 12, 21, 22, 23, 49] ++ [53, 55, 56, 57, 58, 59, 60, 61, 62, 63, 64, 65, 66]) st s2 := Fr.trans (Fr.mono b8 (by decide)) (Fr.mono d7 (by decide))
      have hk53 : Fk 53 [2, 13, 14, 15, 16, 17, 38] st s2 := fun j hj => (d8 j hj).trans (by rw [b8.1 53 (by decide)])
      refine ⟨5, q.n, q.c, fun _ => 0, fun _ => 0, 0, ⟨Or.inl ⟨rfl, by rw [d7.1 0 (by decide)]; exact b1, by rw [d7.1 0 (by decide)]; exact b2, X5_fr d7 (by decide) b3⟩, hcb, d1⟩, ⟨N21_fr d7 (by decide) b4, d2, NB_0 hcb⟩, ⟨0, b, ⟨by rw [d7.1 1 (by decide)]; exact b5, fun j hj => absurd hj (Nat.not_lt_zero _)⟩, ⟨d6, fun j hj => absurd hj (Nat.not_lt_zero _)⟩, Nat.zero_le _, fun j hj => absurd hj (Nat.not_lt_zero _)⟩, ⟨0, by decide, by rw [d7.1 0 (by decide)]; exact b7, d4, d5, fun e => absurd e (by decide), fun e => absurd e (by decide)⟩, ?_, ⟨0, fun _ => 0, fun _ => 0, fun _ => 0, ⟨Nat.zero_le _, fun k hk => absurd hk (Nat.not_lt_zero _)⟩, ⟨by rw [d7.1 49 (by decide)]; exact b6, fun k hk => absurd hk (Nat.not_lt_zero _)⟩, ⟨d3, fun k hk => absurd hk (Nat.not_lt_zero _)⟩⟩, IFol_k hf (by decide) hF, IL_k (by rw [d7.2 0 (by decide), b9]) (by rw [d9, b8.2 53 (by decide)]) hL⟩
      obtain ⟨a, T, C, U, hA, hP, hQ⟩ := hH
      exact ⟨a, T, C, U, hA, XH_fr hf (by decide) (by rw [hf.1 45 (by decide)]) hP, MH_fr hf (by decide) (hk53 33 (by decide)) hQ⟩
    · have f1 := ha hq
      obtain ⟨e1, e2⟩ := ha2 hq
      have hk : KP ([1, 3, 4, 5, 6, 7, 8, 9, 10, 11, 12] ++ [53, 55, 56, 57, 58, 59, 60, 61, 62, 63, 64]) ([] ++ []) ([] ++ [13, 14, 15, 16, 17]) st s2 := KP.trans (KP.of f1.1 (by decide) (by decide)) (KP.of53 e2.1 e2.2.1 (by decide))
      exact ⟨13, n, c, v, u, yd, ⟨Or.inr ⟨rfl, by rw [hk.1.1 0 (by decide)]; exact hcw, by rw [hk.1.1 0 (by decide)]; exact hdw, X13_fr hk.1 (by decide) hX⟩, hB, MR_Rl e1 hB (MR_fr f1.1 (by decide) hR)⟩, INn_k hk.1 (by decide) ⟨hN, hM, hNB⟩, ⟨L, b, ⟨by rw [e2.1.1 1 (by decide)]; exact (f1.2.1 0 (by decide)).trans hXS.1, fun j hj => by rw [hk.1.1 2 (by decide)]; exact hXS.2 j hj⟩, MS_fr hk.1 (by decide) (hk.2.2 2 (by decide)) hMS, hL3, hb⟩, II_k hk (by decide) (by decide) hII, IH_k hk (by decide) (by decide) hH, ITo_k hk (by decide) (by decide) hTo, IFol_k hk.1 (by decide) hF, IL_k (by rw [e2.2.2, f1.2.2]) (by rw [e2.2.2, f1.2.2]) hL⟩
