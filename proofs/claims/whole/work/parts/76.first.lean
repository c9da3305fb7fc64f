/-! THE FIRST STATE -/
def st0 : mSt := (fun p => match p with
  | 0 => fun k => match k with
    | 1 => nI 5
    | 2 => nI 13
    | _ => 0
  | _ => fun _ => 0, fun p => match p with
  | 31 => fun k => match k with
    | 3 => -1
    | _ => 0
  | _ => fun _ => 0)
theorem INV_0 : INV st0 := by
  have hB : CB (fun _ => 0) (fun _ _ => 0) := ⟨Nat.zero_le _, Nat.zero_le _, Nat.zero_le _, fun d hd => absurd hd (Nat.not_lt_zero _), fun d hd => absurd hd (Nat.not_lt_zero _), fun d hd => absurd hd (Nat.not_lt_zero _)⟩
  refine ⟨5, fun _ => 0, fun _ _ => 0, fun _ => 0, fun _ => 0, 0, ⟨Or.inl ⟨rfl, rfl, rfl, ?_⟩, hB, ?_⟩, ⟨?_, ?_, NB_0 hB⟩, ⟨0, fun _ => 0, ⟨rfl, fun j hj => absurd hj (Nat.not_lt_zero _)⟩, ⟨rfl, fun j hj => absurd hj (Nat.not_lt_zero _)⟩, Nat.zero_le _, fun j hj => absurd hj (Nat.not_lt_zero _)⟩, ⟨0, by decide, rfl, rfl, rfl, fun e => absurd e (by decide), fun e => absurd e (by decide)⟩, ⟨0, fun _ => 0, fun _ => 0, fun _ => 0, ⟨Nat.zero_le _, fun k hk => absurd hk (Nat.not_lt_zero _)⟩, ⟨rfl, fun j hj => absurd hj (Nat.not_lt_zero _)⟩, ⟨rfl, fun j hj => absurd hj (Nat.not_lt_zero _)⟩⟩, ⟨0, fun _ => 0, fun _ => 0, fun _ => 0, ⟨Nat.zero_le _, fun k hk => absurd hk (Nat.not_lt_zero _)⟩, ⟨rfl, fun j hj => absurd hj (Nat.not_lt_zero _)⟩, ⟨rfl, fun j hj => absurd hj (Nat.not_lt_zero _)⟩⟩, Or.inl rfl, rfl⟩
  · exact ⟨rfl, rfl, rfl, fun d hd => absurd hd (Nat.not_lt_zero _), fun d hd => absurd hd (Nat.not_lt_zero _), fun d hd => absurd hd (Nat.not_lt_zero _)⟩
  · exact ⟨rfl, rfl, rfl, fun d hd => absurd hd (Nat.not_lt_zero _), fun d hd => absurd hd (Nat.not_lt_zero _), fun d hd => absurd hd (Nat.not_lt_zero _)⟩
  · exact ⟨rfl, rfl, rfl, rfl, rfl, rfl, rfl, fun _ _ => rfl, fun _ _ => rfl⟩
  · exact ⟨fun _ _ => rfl, fun _ _ _ => rfl⟩
theorem cimg_eq (a : Nat → Nat) : (fun j => (([(2, 25), (2, 28)] : List (Nat × Nat))[j]?).map (fun f => a f.2)) = va_up (va_up (fun _ => none) 0 (some (a 25))) 1 (some (a 28)) := by
  funext j
  unfold va_up
  match j with
  | 0 => rfl
  | 1 => rfl
  | j + 2 => rfl
theorem n5 : (nI 5).toNatClampNeg = 5 := by decide +kernel
theorem n13 : (nI 13).toNatClampNeg = 13 := by decide +kernel
theorem mc0_0 (G : mG) : mCell G st0 0 = .inr (9, [.ref (G.2.1 1), .ref (G.2.1 5), .ref (G.2.1 13), .ref (G.2.1 21), .ref (G.2.1 24), .int 0, .ref (G.2.1 31), .ref (G.2.1 34), .ref (G.2.1 42), .ref (G.2.1 44), .ref (G.2.1 45), .ref (G.2.1 49), .long 0]) := by
  have h : mCell G st0 0 = .inr (9, [.ref (G.2.1 1), mTr G (.ref (nI 5).toNatClampNeg), mTr G (.ref (nI 13).toNatClampNeg), .ref (G.2.1 21), .ref (G.2.1 24), .int 0, .ref (G.2.1 31), .ref (G.2.1 34), .ref (G.2.1 42), .ref (G.2.1 44), .ref (G.2.1 45), .ref (G.2.1 49), .long 0]) := (mCell_4 (c := 9) (fs := [(2, 1), (3, 0), (3, 0), (2, 21), (2, 24), (0, 0), (2, 31), (2, 34), (2, 42), (2, 44), (2, 45), (2, 49), (1, 0)]) rfl).trans rfl
  rw [h, n5, n13]
  rfl
theorem mc0_1 (G : mG) : mCell G st0 1 = .inr (7, [.int 0, .ref (G.2.1 2), .ref (G.2.1 3), .ref (G.2.1 4), .int 0, .int 0]) := (mCell_4 (c := 7) (fs := [(0, 0), (2, 2), (2, 3), (2, 4), (0, 0), (5, 0)]) rfl).trans rfl
theorem mc0_2 (G : mG) : mCell G st0 2 = .inl (G.2.2.1 0, 300, .inl (fun _ => 0)) := mCell_0 rfl
theorem mc0_3 (G : mG) : mCell G st0 3 = .inl (G.2.2.1 0, 301, .inl (fun _ => 0)) := mCell_0 rfl
theorem mc0_4 (G : mG) : mCell G st0 4 = .inl (G.2.2.1 0, 301, .inl (fun _ => 0)) := mCell_0 rfl
theorem mc0_5 (G : mG) : mCell G st0 5 = .inr (1, [.int 0, .int 0, .int 0, .ref (G.2.1 6), .ref (G.2.1 7), .ref (G.2.1 8), .ref (G.2.1 9), .ref (G.2.1 10), .ref (G.2.1 11), .ref (G.2.1 12)]) := (mCell_4 (c := 1) (fs := [(0, 0), (0, 0), (0, 0), (2, 6), (2, 7), (2, 8), (2, 9), (2, 10), (2, 11), (2, 12)]) rfl).trans rfl
theorem mc0_6 (G : mG) : mCell G st0 6 = .inl (G.2.2.1 0, 6, .inl (fun _ => 0)) := mCell_0 rfl
theorem mc0_7 (G : mG) : mCell G st0 7 = .inl (G.2.2.1 0, 6, .inl (fun _ => 0)) := mCell_0 rfl
theorem mc0_8 (G : mG) : mCell G st0 8 = .inl (G.2.2.1 0, 6, .inl (fun _ => 0)) := mCell_0 rfl
theorem mc0_9 (G : mG) : mCell G st0 9 = .inl (G.2.2.1 0, 8, .inl (fun _ => 0)) := mCell_0 rfl
theorem mc0_10 (G : mG) : mCell G st0 10 = .inl (G.2.2.1 0, 8, .inl (fun _ => 0)) := mCell_0 rfl
theorem mc0_11 (G : mG) : mCell G st0 11 = .inl (G.2.2.1 0, 8, .inl (fun _ => 0)) := mCell_0 rfl
theorem mc0_12 (G : mG) : mCell G st0 12 = .inl (G.2.2.1 0, 8, .inl (fun _ => 0)) := mCell_0 rfl
theorem mc0_13 (G : mG) : mCell G st0 13 = .inr (1, [.int 0, .int 0, .int 0, .ref (G.2.1 14), .ref (G.2.1 15), .ref (G.2.1 16), .ref (G.2.1 17), .ref (G.2.1 18), .ref (G.2.1 19), .ref (G.2.1 20)]) := (mCell_4 (c := 1) (fs := [(0, 0), (0, 0), (0, 0), (2, 14), (2, 15), (2, 16), (2, 17), (2, 18), (2, 19), (2, 20)]) rfl).trans rfl
theorem mc0_14 (G : mG) : mCell G st0 14 = .inl (G.2.2.1 0, 6, .inl (fun _ => 0)) := mCell_0 rfl
theorem mc0_15 (G : mG) : mCell G st0 15 = .inl (G.2.2.1 0, 6, .inl (fun _ => 0)) := mCell_0 rfl
theorem mc0_16 (G : mG) : mCell G st0 16 = .inl (G.2.2.1 0, 6, .inl (fun _ => 0)) := mCell_0 rfl
theorem mc0_17 (G : mG) : mCell G st0 17 = .inl (G.2.2.1 0, 8, .inl (fun _ => 0)) := mCell_0 rfl
theorem mc0_18 (G : mG) : mCell G st0 18 = .inl (G.2.2.1 0, 8, .inl (fun _ => 0)) := mCell_0 rfl
theorem mc0_19 (G : mG) : mCell G st0 19 = .inl (G.2.2.1 0, 8, .inl (fun _ => 0)) := mCell_0 rfl
theorem mc0_20 (G : mG) : mCell G st0 20 = .inl (G.2.2.1 0, 8, .inl (fun _ => 0)) := mCell_0 rfl
theorem mc0_21 (G : mG) : mCell G st0 21 = .inr (5, [.int 0, .int 0, .int 0, .int 0, .int 0, .int 0, .int 0, .ref (G.2.1 22), .ref (G.2.1 23)]) := (mCell_4 (c := 5) (fs := [(0, 0), (0, 0), (0, 0), (0, 0), (0, 0), (0, 0), (0, 0), (2, 22), (2, 23)]) rfl).trans rfl
theorem mc0_22 (G : mG) : mCell G st0 22 = .inl (G.2.2.1 0, 6, .inl (fun _ => 0)) := mCell_0 rfl
theorem mc0_23 (G : mG) : mCell G st0 23 = .inl (G.2.2.1 0, 8, .inl (fun _ => 0)) := mCell_0 rfl
theorem mc0_24 (G : mG) : mCell G st0 24 = .inl (G.2.2.1 3, 2, .inr (.inr (.inr (.inr (va_up (va_up (fun _ => none) 0 (some (G.2.1 25))) 1 (some (G.2.1 28))))))) := by
  rw [← cimg_eq]
  exact mCell_3 rfl
theorem mc0_25 (G : mG) : mCell G st0 25 = .inr (5, [.int 0, .int 0, .int 0, .int 0, .int 0, .int 0, .int 0, .ref (G.2.1 26), .ref (G.2.1 27)]) := (mCell_4 (c := 5) (fs := [(0, 0), (0, 0), (0, 0), (0, 0), (0, 0), (0, 0), (0, 0), (2, 26), (2, 27)]) rfl).trans rfl
theorem mc0_26 (G : mG) : mCell G st0 26 = .inl (G.2.2.1 0, 6, .inl (fun _ => 0)) := mCell_0 rfl
theorem mc0_27 (G : mG) : mCell G st0 27 = .inl (G.2.2.1 0, 8, .inl (fun _ => 0)) := mCell_0 rfl
theorem mc0_28 (G : mG) : mCell G st0 28 = .inr (5, [.int 0, .int 0, .int 0, .int 0, .int 0, .int 0, .int 0, .ref (G.2.1 29), .ref (G.2.1 30)]) := (mCell_4 (c := 5) (fs := [(0, 0), (0, 0), (0, 0), (0, 0), (0, 0), (0, 0), (0, 0), (2, 29), (2, 30)]) rfl).trans rfl
theorem mc0_29 (G : mG) : mCell G st0 29 = .inl (G.2.2.1 0, 6, .inl (fun _ => 0)) := mCell_0 rfl
theorem mc0_30 (G : mG) : mCell G st0 30 = .inl (G.2.2.1 0, 8, .inl (fun _ => 0)) := mCell_0 rfl
theorem mc0_31 (G : mG) : mCell G st0 31 = .inr (0, [.int 0, .ref (G.2.1 32), .int 0, .long (-1), .ref (G.2.1 33)]) := (mCell_4 (c := 0) (fs := [(0, 0), (2, 32), (0, 0), (1, 0), (2, 33)]) rfl).trans rfl
theorem mc0_32 (G : mG) : mCell G st0 32 = .inl (G.2.2.1 0, 6, .inl (fun _ => 0)) := mCell_0 rfl
theorem mc0_33 (G : mG) : mCell G st0 33 = .inl (G.2.2.1 0, 8, .inl (fun _ => 0)) := mCell_0 rfl
theorem mc0_34 (G : mG) : mCell G st0 34 = .inr (2, [.int 0, .ref (G.2.1 35), .ref (G.2.1 36), .ref (G.2.1 37), .ref (G.2.1 38), .ref (G.2.1 39), .ref (G.2.1 40), .ref (G.2.1 41)]) := (mCell_4 (c := 2) (fs := [(0, 0), (2, 35), (2, 36), (2, 37), (2, 38), (2, 39), (2, 40), (2, 41)]) rfl).trans rfl
theorem mc0_35 (G : mG) : mCell G st0 35 = .inl (G.2.2.1 0, 6, .inl (fun _ => 0)) := mCell_0 rfl
theorem mc0_36 (G : mG) : mCell G st0 36 = .inl (G.2.2.1 0, 6, .inl (fun _ => 0)) := mCell_0 rfl
theorem mc0_37 (G : mG) : mCell G st0 37 = .inl (G.2.2.1 0, 8, .inl (fun _ => 0)) := mCell_0 rfl
theorem mc0_38 (G : mG) : mCell G st0 38 = .inl (G.2.2.1 0, 6, .inl (fun _ => 0)) := mCell_0 rfl
theorem mc0_39 (G : mG) : mCell G st0 39 = .inl (G.2.2.1 0, 8, .inl (fun _ => 0)) := mCell_0 rfl
theorem mc0_40 (G : mG) : mCell G st0 40 = .inl (G.2.2.1 0, 6, .inl (fun _ => 0)) := mCell_0 rfl
theorem mc0_41 (G : mG) : mCell G st0 41 = .inl (G.2.2.1 0, 8, .inl (fun _ => 0)) := mCell_0 rfl
theorem mc0_42 (G : mG) : mCell G st0 42 = .inr (6, [.int 0, .int 0, .int 0, .int 0, .ref (G.2.1 43)]) := (mCell_4 (c := 6) (fs := [(0, 0), (0, 0), (0, 0), (0, 0), (2, 43)]) rfl).trans rfl
theorem mc0_43 (G : mG) : mCell G st0 43 = .inl (G.2.2.1 0, 64, .inl (fun _ => 0)) := mCell_0 rfl
theorem mc0_44 (G : mG) : mCell G st0 44 = .inr (4, [.int 0, .int 0, .int 0, .int 0, .int 0, .int 0, .int 0]) := (mCell_4 (c := 4) (fs := [(0, 0), (0, 0), (0, 0), (0, 0), (0, 0), (0, 0), (0, 0)]) rfl).trans rfl
theorem mc0_45 (G : mG) : mCell G st0 45 = .inr (3, [.int 0, .ref (G.2.1 46), .ref (G.2.1 47), .ref (G.2.1 48)]) := (mCell_4 (c := 3) (fs := [(0, 0), (2, 46), (2, 47), (2, 48)]) rfl).trans rfl
theorem mc0_46 (G : mG) : mCell G st0 46 = .inl (G.2.2.1 0, 8, .inl (fun _ => 0)) := mCell_0 rfl
theorem mc0_47 (G : mG) : mCell G st0 47 = .inl (G.2.2.1 0, 8, .inl (fun _ => 0)) := mCell_0 rfl
theorem mc0_48 (G : mG) : mCell G st0 48 = .inl (G.2.2.1 0, 8, .inl (fun _ => 0)) := mCell_0 rfl
theorem mc0_49 (G : mG) : mCell G st0 49 = .inr (8, [.int 0, .ref (G.2.1 50), .ref (G.2.1 51), .ref (G.2.1 52)]) := (mCell_4 (c := 8) (fs := [(0, 0), (2, 50), (2, 51), (2, 52)]) rfl).trans rfl
theorem mc0_50 (G : mG) : mCell G st0 50 = .inl (G.2.2.1 0, 30, .inl (fun _ => 0)) := mCell_0 rfl
theorem mc0_51 (G : mG) : mCell G st0 51 = .inl (G.2.2.1 0, 30, .inl (fun _ => 0)) := mCell_0 rfl
theorem mc0_52 (G : mG) : mCell G st0 52 = .inl (G.2.2.1 0, 30, .inl (fun _ => 0)) := mCell_0 rfl
theorem mc0_53 (G : mG) : mCell G st0 53 = .inr (10, [.long 0, .ref (G.2.1 54), .int 0, .ref (G.2.1 55), .ref (G.2.1 56), .ref (G.2.1 57), .ref (G.2.1 58), .ref (G.2.1 59), .ref (G.2.1 60), .ref (G.2.1 61), .ref (G.2.1 62), .ref (G.2.1 63), .ref (G.2.1 64), .int 0, .int 0, .int 0, .int 0, .int 0, .ref (G.2.1 65), .ref (G.2.1 66), .ref (G.2.1 67), .ref (G.2.1 68), .ref (G.2.1 69), .ref (G.2.1 70), .ref (G.2.1 71), .ref (G.2.1 72), .ref (G.2.1 73), .ref (G.2.1 74), .ref (G.2.1 75), .ref (G.2.1 76), .ref (G.2.1 77), .ref (G.2.1 78), .int 0, .int 0, .ref (G.2.1 79), .ref (G.2.1 80), .ref (G.2.1 81), .ref (G.2.1 82), .int 0, .ref (G.2.1 83), .ref (G.2.1 84), .ref (G.2.1 85)]) := (mCell_4 (c := 10) (fs := [(1, 0), (2, 54), (0, 0), (2, 55), (2, 56), (2, 57), (2, 58), (2, 59), (2, 60), (2, 61), (2, 62), (2, 63), (2, 64), (0, 0), (0, 0), (0, 0), (0, 0), (0, 0), (2, 65), (2, 66), (2, 67), (2, 68), (2, 69), (2, 70), (2, 71), (2, 72), (2, 73), (2, 74), (2, 75), (2, 76), (2, 77), (2, 78), (0, 0), (0, 0), (2, 79), (2, 80), (2, 81), (2, 82), (0, 0), (2, 83), (2, 84), (2, 85)]) rfl).trans rfl
theorem mc0_54 (G : mG) : mCell G st0 54 = .inl (G.2.2.1 1, 300, .inl (fun _ => 0)) := mCell_1 rfl
theorem mc0_55 (G : mG) : mCell G st0 55 = .inl (G.2.2.1 0, 2, .inl (fun _ => 0)) := mCell_0 rfl
theorem mc0_56 (G : mG) : mCell G st0 56 = .inl (G.2.2.1 0, 12, .inl (fun _ => 0)) := mCell_0 rfl
theorem mc0_57 (G : mG) : mCell G st0 57 = .inl (G.2.2.1 0, 12, .inl (fun _ => 0)) := mCell_0 rfl
theorem mc0_58 (G : mG) : mCell G st0 58 = .inl (G.2.2.1 0, 12, .inl (fun _ => 0)) := mCell_0 rfl
theorem mc0_59 (G : mG) : mCell G st0 59 = .inl (G.2.2.1 0, 2, .inl (fun _ => 0)) := mCell_0 rfl
theorem mc0_60 (G : mG) : mCell G st0 60 = .inl (G.2.2.1 0, 16, .inl (fun _ => 0)) := mCell_0 rfl
theorem mc0_61 (G : mG) : mCell G st0 61 = .inl (G.2.2.1 0, 16, .inl (fun _ => 0)) := mCell_0 rfl
theorem mc0_62 (G : mG) : mCell G st0 62 = .inl (G.2.2.1 0, 2, .inl (fun _ => 0)) := mCell_0 rfl
theorem mc0_63 (G : mG) : mCell G st0 63 = .inl (G.2.2.1 0, 16, .inl (fun _ => 0)) := mCell_0 rfl
theorem mc0_64 (G : mG) : mCell G st0 64 = .inl (G.2.2.1 0, 16, .inl (fun _ => 0)) := mCell_0 rfl
theorem mc0_65 (G : mG) : mCell G st0 65 = .inl (G.2.2.1 0, 60, .inl (fun _ => 0)) := mCell_0 rfl
theorem mc0_66 (G : mG) : mCell G st0 66 = .inl (G.2.2.1 2, 2, .inl (fun _ => 0)) := mCell_2 rfl
theorem mc0_67 (G : mG) : mCell G st0 67 = .inl (G.2.2.1 2, 48, .inl (fun _ => 0)) := mCell_2 rfl
theorem mc0_68 (G : mG) : mCell G st0 68 = .inl (G.2.2.1 2, 48, .inl (fun _ => 0)) := mCell_2 rfl
theorem mc0_69 (G : mG) : mCell G st0 69 = .inl (G.2.2.1 0, 6, .inl (fun _ => 0)) := mCell_0 rfl
theorem mc0_70 (G : mG) : mCell G st0 70 = .inl (G.2.2.1 0, 8, .inl (fun _ => 0)) := mCell_0 rfl
theorem mc0_71 (G : mG) : mCell G st0 71 = .inl (G.2.2.1 0, 6, .inl (fun _ => 0)) := mCell_0 rfl
theorem mc0_72 (G : mG) : mCell G st0 72 = .inl (G.2.2.1 0, 8, .inl (fun _ => 0)) := mCell_0 rfl
theorem mc0_73 (G : mG) : mCell G st0 73 = .inl (G.2.2.1 0, 6, .inl (fun _ => 0)) := mCell_0 rfl
theorem mc0_74 (G : mG) : mCell G st0 74 = .inl (G.2.2.1 0, 8, .inl (fun _ => 0)) := mCell_0 rfl
theorem mc0_75 (G : mG) : mCell G st0 75 = .inl (G.2.2.1 0, 6, .inl (fun _ => 0)) := mCell_0 rfl
theorem mc0_76 (G : mG) : mCell G st0 76 = .inl (G.2.2.1 0, 3, .inl (fun _ => 0)) := mCell_0 rfl
theorem mc0_77 (G : mG) : mCell G st0 77 = .inl (G.2.2.1 0, 3, .inl (fun _ => 0)) := mCell_0 rfl
theorem mc0_78 (G : mG) : mCell G st0 78 = .inl (G.2.2.1 0, 8, .inl (fun _ => 0)) := mCell_0 rfl
theorem mc0_79 (G : mG) : mCell G st0 79 = .inl (G.2.2.1 0, 8, .inl (fun _ => 0)) := mCell_0 rfl
theorem mc0_80 (G : mG) : mCell G st0 80 = .inl (G.2.2.1 0, 8, .inl (fun _ => 0)) := mCell_0 rfl
theorem mc0_81 (G : mG) : mCell G st0 81 = .inl (G.2.2.1 0, 8, .inl (fun _ => 0)) := mCell_0 rfl
theorem mc0_82 (G : mG) : mCell G st0 82 = .inl (G.2.2.1 0, 8, .inl (fun _ => 0)) := mCell_0 rfl
theorem mc0_83 (G : mG) : mCell G st0 83 = .inl (G.2.2.1 0, 30, .inl (fun _ => 0)) := mCell_0 rfl
theorem mc0_84 (G : mG) : mCell G st0 84 = .inl (G.2.2.1 0, 30, .inl (fun _ => 0)) := mCell_0 rfl
theorem mc0_85 (G : mG) : mCell G st0 85 = .inl (G.2.2.1 0, 30, .inl (fun _ => 0)) := mCell_0 rfl
set_option maxRecDepth 20000 in
theorem mWs0 (G : mG) : mWs G st0 = wX9 G.2.2.1 (G.2.1 0) G.2.1 ++ wX10 G.2.2.1 (G.2.1 53) (fun j => G.2.1 (53 + j)) := by
  have h : mWs G st0 = [(G.2.1 0, mCell G st0 0), (G.2.1 1, mCell G st0 1), (G.2.1 2, mCell G st0 2), (G.2.1 3, mCell G st0 3), (G.2.1 4, mCell G st0 4), (G.2.1 5, mCell G st0 5), (G.2.1 6, mCell G st0 6), (G.2.1 7, mCell G st0 7), (G.2.1 8, mCell G st0 8), (G.2.1 9, mCell G st0 9), (G.2.1 10, mCell G st0 10), (G.2.1 11, mCell G st0 11), (G.2.1 12, mCell G st0 12), (G.2.1 13, mCell G st0 13), (G.2.1 14, mCell G st0 14), (G.2.1 15, mCell G st0 15), (G.2.1 16, mCell G st0 16), (G.2.1 17, mCell G st0 17), (G.2.1 18, mCell G st0 18), (G.2.1 19, mCell G st0 19), (G.2.1 20, mCell G st0 20), (G.2.1 21, mCell G st0 21), (G.2.1 22, mCell G st0 22), (G.2.1 23, mCell G st0 23), (G.2.1 24, mCell G st0 24), (G.2.1 25, mCell G st0 25), (G.2.1 26, mCell G st0 26), (G.2.1 27, mCell G st0 27), (G.2.1 28, mCell G st0 28), (G.2.1 29, mCell G st0 29), (G.2.1 30, mCell G st0 30), (G.2.1 31, mCell G st0 31), (G.2.1 32, mCell G st0 32), (G.2.1 33, mCell G st0 33), (G.2.1 34, mCell G st0 34), (G.2.1 35, mCell G st0 35), (G.2.1 36, mCell G st0 36), (G.2.1 37, mCell G st0 37), (G.2.1 38, mCell G st0 38), (G.2.1 39, mCell G st0 39), (G.2.1 40, mCell G st0 40), (G.2.1 41, mCell G st0 41), (G.2.1 42, mCell G st0 42), (G.2.1 43, mCell G st0 43), (G.2.1 44, mCell G st0 44), (G.2.1 45, mCell G st0 45), (G.2.1 46, mCell G st0 46), (G.2.1 47, mCell G st0 47), (G.2.1 48, mCell G st0 48), (G.2.1 49, mCell G st0 49), (G.2.1 50, mCell G st0 50), (G.2.1 51, mCell G st0 51), (G.2.1 52, mCell G st0 52), (G.2.1 53, mCell G st0 53), (G.2.1 54, mCell G st0 54), (G.2.1 55, mCell G st0 55), (G.2.1 56, mCell G st0 56), (G.2.1 57, mCell G st0 57), (G.2.1 58, mCell G st0 58), (G.2.1 59, mCell G st0 59), (G.2.1 60, mCell G st0 60), (G.2.1 61, mCell G st0 61), (G.2.1 62, mCell G st0 62), (G.2.1 63, mCell G st0 63), (G.2.1 64, mCell G st0 64), (G.2.1 65, mCell G st0 65), (G.2.1 66, mCell G st0 66), (G.2.1 67, mCell G st0 67), (G.2.1 68, mCell G st0 68), (G.2.1 69, mCell G st0 69), (G.2.1 70, mCell G st0 70), (G.2.1 71, mCell G st0 71), (G.2.1 72, mCell G st0 72), (G.2.1 73, mCell G st0 73), (G.2.1 74, mCell G st0 74), (G.2.1 75, mCell G st0 75), (G.2.1 76, mCell G st0 76), (G.2.1 77, mCell G st0 77), (G.2.1 78, mCell G st0 78), (G.2.1 79, mCell G st0 79), (G.2.1 80, mCell G st0 80), (G.2.1 81, mCell G st0 81), (G.2.1 82, mCell G st0 82), (G.2.1 83, mCell G st0 83), (G.2.1 84, mCell G st0 84), (G.2.1 85, mCell G st0 85)] := rfl
  rw [h, mc0_0, mc0_1, mc0_2, mc0_3, mc0_4, mc0_5, mc0_6, mc0_7, mc0_8, mc0_9, mc0_10, mc0_11, mc0_12, mc0_13, mc0_14, mc0_15, mc0_16, mc0_17, mc0_18, mc0_19, mc0_20, mc0_21, mc0_22, mc0_23, mc0_24, mc0_25, mc0_26, mc0_27, mc0_28, mc0_29, mc0_30, mc0_31, mc0_32, mc0_33, mc0_34, mc0_35, mc0_36, mc0_37, mc0_38, mc0_39, mc0_40, mc0_41, mc0_42, mc0_43, mc0_44, mc0_45, mc0_46, mc0_47, mc0_48, mc0_49, mc0_50, mc0_51, mc0_52, mc0_53, mc0_54, mc0_55, mc0_56, mc0_57, mc0_58, mc0_59, mc0_60, mc0_61, mc0_62, mc0_63, mc0_64, mc0_65, mc0_66, mc0_67, mc0_68, mc0_69, mc0_70, mc0_71, mc0_72, mc0_73, mc0_74, mc0_75, mc0_76, mc0_77, mc0_78, mc0_79, mc0_80, mc0_81, mc0_82, mc0_83, mc0_84, mc0_85]
  rfl
