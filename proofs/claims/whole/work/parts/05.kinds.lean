/-! printed: the kinds of cells, where they lie, what they hold -/
def kOF : List (List Nat) := [[0], [32], [1], [2], [3, 4, 5, 6], [7], [8], [9, 88, 111, 134], [10, 89, 112, 135, 33], [11, 90, 113, 136, 34], [12, 91, 114, 137, 35], [13, 92, 115, 138, 36], [14, 93, 116, 139, 37], [15, 94, 117, 140, 38], [16, 95, 118, 141, 39], [17, 96, 119, 142, 40], [18, 97, 120, 143, 41], [19, 98, 121, 144, 42], [20, 99, 122, 145, 43], [21, 100, 123, 146, 44], [22, 101, 124, 147, 81, 66, 69, 72, 75, 78], [23, 102, 125, 148, 82, 67, 70, 73, 76, 79], [24, 103, 126, 149, 83, 68, 71, 74, 77, 80], [25, 104, 127, 150, 45], [26, 105, 128, 151, 46], [27, 106, 129, 152, 47], [28, 107, 130, 153, 48], [29, 108, 131, 154, 49], [30, 109, 132, 155, 50], [31, 110, 133, 156, 51], [52], [53], [54], [55], [56], [57], [58], [59], [60], [61], [62], [63], [64], [65], [84, 86], [85, 87], [], [], [], [], [157], [158], [159], [160], [161], [162], [163], [164], [165], [166], [167], [168], [169], [170], [171], []]
def kTot : Nat := 172
def cnt (c : Nat) : Nat := (kOF.getD c []).length
def ad (E : wEnv) (c i : Nat) : Nat := E.2.2 + (kOF.getD c []).getD i 0
def cE (E : wEnv) (M : Mem) (c i : Nat) : va_E := match c with
  | 0 => .inr (10, [.ref (ad E 2 0), .ref (ad E 7 0), .ref (ad E 1 0), .ref (ad E 8 4), .ref (ad E 23 4), .ref (ad E 30 0), .ref (ad E 33 0), .ref (ad E 34 0), .ref (ad E 36 0), .ref (ad E 20 4), .ref (ad E 44 0), .ref (ad E 44 1), .int (M.1 0 i 12), .int (M.1 0 i 13), .int (M.1 0 i 14), .int (M.1 0 i 15), .int (M.1 0 i 16), .long (M.2 0 i 17), .long (M.2 0 i 18)])
  | 1 => .inl (E.2.1 3, 3, .inr (.inr (.inr (.inr (fun j => some (ad E 7 (j + 1)))))))
  | 2 => .inr (6, [.ref (ad E 3 0), .ref (ad E 5 0), .ref (ad E 6 0)])
  | 3 => .inl (E.2.1 5, 4, .inr (.inr (.inr (.inr (fun j => some (ad E 4 j))))))
  | 4 => .inl (E.2.1 2, 60, .inr (.inl (M.2 4 i)))
  | 5 => .inl (E.2.1 0, 4, .inl (M.1 5 i))
  | 6 => .inl (E.2.1 0, 4, .inl (M.1 6 i))
  | 7 => .inr (9, [.ref (ad E 8 i), .ref (ad E 20 i), .ref (ad E 23 i)])
  | 8 => .inr (1, [.ref (ad E 9 i), .ref (ad E 10 i), .ref (ad E 11 i), .ref (ad E 12 i), .ref (ad E 13 i), .ref (ad E 14 i), .ref (ad E 15 i), .ref (ad E 16 i), .ref (ad E 17 i), .ref (ad E 18 i), .ref (ad E 19 i), .int (M.1 8 i 11), .int (M.1 8 i 12)])
  | 9 => .inl (E.2.1 0, 4, .inl (M.1 9 i))
  | 10 => .inl (E.2.1 2, 40, .inr (.inl (M.2 10 i)))
  | 11 => .inl (E.2.1 0, 10, .inl (M.1 11 i))
  | 12 => .inl (E.2.1 0, 10, .inl (M.1 12 i))
  | 13 => .inl (E.2.1 0, 10, .inl (M.1 13 i))
  | 14 => .inl (E.2.1 0, 100, .inl (M.1 14 i))
  | 15 => .inl (E.2.1 0, 10, .inl (M.1 15 i))
  | 16 => .inl (E.2.1 0, 6, .inl (M.1 16 i))
  | 17 => .inl (E.2.1 0, 6, .inl (M.1 17 i))
  | 18 => .inl (E.2.1 0, 6, .inl (M.1 18 i))
  | 19 => .inl (E.2.1 0, 24, .inl (M.1 19 i))
  | 20 => .inr (3, [.ref (ad E 21 i), .ref (ad E 22 i), .int (M.1 20 i 2), .int (M.1 20 i 3), .int (M.1 20 i 4), .int (M.1 20 i 5), .int (M.1 20 i 6), .int (M.1 20 i 7)])
  | 21 => .inl (E.2.1 0, 10, .inl (M.1 21 i))
  | 22 => .inl (E.2.1 0, 4, .inl (M.1 22 i))
  | 23 => .inr (7, [.ref (ad E 24 i), .ref (ad E 25 i), .ref (ad E 26 i), .ref (ad E 27 i), .ref (ad E 28 i), .ref (ad E 29 i), .int (M.1 23 i 6), .int (M.1 23 i 7), .int (M.1 23 i 8)])
  | 24 => .inl (E.2.1 0, 60, .inl (M.1 24 i))
  | 25 => .inl (E.2.1 0, 60, .inl (M.1 25 i))
  | 26 => .inl (E.2.1 0, 60, .inl (M.1 26 i))
  | 27 => .inl (E.2.1 0, 60, .inl (M.1 27 i))
  | 28 => .inl (E.2.1 0, 60, .inl (M.1 28 i))
  | 29 => .inl (E.2.1 0, 60, .inl (M.1 29 i))
  | 30 => .inr (5, [.ref (ad E 31 0), .ref (ad E 32 0), .int (M.1 30 i 2), .int (M.1 30 i 3), .int (M.1 30 i 4), .int (M.1 30 i 5), .int (M.1 30 i 6), .int (M.1 30 i 7), .long (M.2 30 i 8), .int (M.1 30 i 9), .int (M.1 30 i 10), .int (M.1 30 i 11)])
  | 31 => .inl (E.2.1 1, 900, .inl (M.1 31 i))
  | 32 => .inl (E.2.1 2, 30, .inr (.inl (M.2 32 i)))
  | 33 => .inr (2, [.int (M.1 33 i 0)])
  | 34 => .inr (8, [.ref (ad E 35 0), .int (M.1 34 i 1)])
  | 35 => .inl (E.2.1 0, 3, .inl (M.1 35 i))
  | 36 => .inr (0, [.ref (ad E 37 0), .ref (ad E 38 0), .ref (ad E 39 0), .ref (ad E 40 0), .ref (ad E 41 0), .ref (ad E 42 0), .ref (ad E 43 0), .int (M.1 36 i 7), .int (M.1 36 i 8), .int (M.1 36 i 9), .int (M.1 36 i 10)])
  | 37 => .inl (E.2.1 2, 201, .inr (.inl (M.2 37 i)))
  | 38 => .inl (E.2.1 2, 201, .inr (.inl (M.2 38 i)))
  | 39 => .inl (E.2.1 4, 5, .inr (.inr (.inr (.inr (fun j => some (ad E 20 (j + 5)))))))
  | 40 => .inl (E.2.1 0, 4, .inl (M.1 40 i))
  | 41 => .inl (E.2.1 0, 6, .inl (M.1 41 i))
  | 42 => .inl (E.2.1 0, 4, .inl (M.1 42 i))
  | 43 => .inl (E.2.1 0, 6, .inl (M.1 43 i))
  | 44 => .inr (4, [.ref (ad E 45 i), .int (M.1 44 i 1), .int (M.1 44 i 2), .int (M.1 44 i 3), .int (M.1 44 i 4), .int (M.1 44 i 5), .int (M.1 44 i 6), .int (M.1 44 i 7)])
  | 45 => .inl (E.2.1 0, 60, .inl (M.1 45 i))
  | 50 => .inr (11, [.int (M.1 50 i 0), .int (M.1 50 i 1), .long (M.2 50 i 2), .long (M.2 50 i 3), .ref (ad E 51 0), .ref (ad E 52 0), .ref (ad E 53 0), .ref (ad E 54 0), .int (M.1 50 i 8), .int (M.1 50 i 9), .int (M.1 50 i 10), .int (M.1 50 i 11), .int (M.1 50 i 12), .int (M.1 50 i 13), .int (M.1 50 i 14), .int (M.1 50 i 15), .int (M.1 50 i 16), .int (M.1 50 i 17), .int (M.1 50 i 18), .long (M.2 50 i 19), .ref (ad E 55 0), .ref (ad E 56 0), .ref (ad E 57 0), .int (M.1 50 i 23), .int (M.1 50 i 24), .int (M.1 50 i 25), .ref (ad E 58 0), .ref (ad E 59 0), .ref (ad E 60 0), .ref (ad E 61 0), .int (M.1 50 i 30), .int (M.1 50 i 31), .int (M.1 50 i 32), .int (M.1 50 i 33), .ref (ad E 62 0), .ref (ad E 63 0), .ref (ad E 64 0), .int (M.1 50 i 37), .int (M.1 50 i 38), .int (M.1 50 i 39), .int (M.1 50 i 40), .int (M.1 50 i 41), .int (M.1 50 i 42), .int (M.1 50 i 43), .int (M.1 50 i 44), .int (M.1 50 i 45)])
  | 51 => .inl (E.2.1 0, 4, .inl (M.1 51 i))
  | 52 => .inl (E.2.1 0, 4, .inl (M.1 52 i))
  | 53 => .inl (E.2.1 2, 240, .inr (.inl (M.2 53 i)))
  | 54 => .inl (E.2.1 1, 900, .inl (M.1 54 i))
  | 55 => .inl (E.2.1 0, 2375, .inl (M.1 55 i))
  | 56 => .inl (E.2.1 0, 198, .inl (M.1 56 i))
  | 57 => .inl (E.2.1 2, 130, .inr (.inl (M.2 57 i)))
  | 58 => .inl (E.2.1 0, 2010, .inl (M.1 58 i))
  | 59 => .inl (E.2.1 0, 4, .inl (M.1 59 i))
  | 60 => .inl (E.2.1 0, 4, .inl (M.1 60 i))
  | 61 => .inl (E.2.1 0, 990, .inl (M.1 61 i))
  | 62 => .inl (E.2.1 0, 126, .inl (M.1 62 i))
  | 63 => .inl (E.2.1 0, 5, .inl (M.1 63 i))
  | 64 => .inl (E.2.1 0, 198, .inl (M.1 64 i))
  | _ => .inl (E.2.1 0, 0, .inl (fun _ => 0))
theorem cnt_0 : cnt 0 = 1 := rfl
theorem cnt_1 : cnt 1 = 1 := rfl
theorem cnt_2 : cnt 2 = 1 := rfl
theorem cnt_3 : cnt 3 = 1 := rfl
theorem cnt_4 : cnt 4 = 4 := rfl
theorem cnt_5 : cnt 5 = 1 := rfl
theorem cnt_6 : cnt 6 = 1 := rfl
theorem cnt_7 : cnt 7 = 4 := rfl
theorem cnt_8 : cnt 8 = 5 := rfl
theorem cnt_9 : cnt 9 = 5 := rfl
theorem cnt_10 : cnt 10 = 5 := rfl
theorem cnt_11 : cnt 11 = 5 := rfl
theorem cnt_12 : cnt 12 = 5 := rfl
theorem cnt_13 : cnt 13 = 5 := rfl
theorem cnt_14 : cnt 14 = 5 := rfl
theorem cnt_15 : cnt 15 = 5 := rfl
theorem cnt_16 : cnt 16 = 5 := rfl
theorem cnt_17 : cnt 17 = 5 := rfl
theorem cnt_18 : cnt 18 = 5 := rfl
theorem cnt_19 : cnt 19 = 5 := rfl
theorem cnt_20 : cnt 20 = 10 := rfl
theorem cnt_21 : cnt 21 = 10 := rfl
theorem cnt_22 : cnt 22 = 10 := rfl
theorem cnt_23 : cnt 23 = 5 := rfl
theorem cnt_24 : cnt 24 = 5 := rfl
theorem cnt_25 : cnt 25 = 5 := rfl
theorem cnt_26 : cnt 26 = 5 := rfl
theorem cnt_27 : cnt 27 = 5 := rfl
theorem cnt_28 : cnt 28 = 5 := rfl
theorem cnt_29 : cnt 29 = 5 := rfl
theorem cnt_30 : cnt 30 = 1 := rfl
theorem cnt_31 : cnt 31 = 1 := rfl
theorem cnt_32 : cnt 32 = 1 := rfl
theorem cnt_33 : cnt 33 = 1 := rfl
theorem cnt_34 : cnt 34 = 1 := rfl
theorem cnt_35 : cnt 35 = 1 := rfl
theorem cnt_36 : cnt 36 = 1 := rfl
theorem cnt_37 : cnt 37 = 1 := rfl
theorem cnt_38 : cnt 38 = 1 := rfl
theorem cnt_39 : cnt 39 = 1 := rfl
theorem cnt_40 : cnt 40 = 1 := rfl
theorem cnt_41 : cnt 41 = 1 := rfl
theorem cnt_42 : cnt 42 = 1 := rfl
theorem cnt_43 : cnt 43 = 1 := rfl
theorem cnt_44 : cnt 44 = 2 := rfl
theorem cnt_45 : cnt 45 = 2 := rfl
theorem cnt_50 : cnt 50 = 1 := rfl
theorem cnt_51 : cnt 51 = 1 := rfl
theorem cnt_52 : cnt 52 = 1 := rfl
theorem cnt_53 : cnt 53 = 1 := rfl
theorem cnt_54 : cnt 54 = 1 := rfl
theorem cnt_55 : cnt 55 = 1 := rfl
theorem cnt_56 : cnt 56 = 1 := rfl
theorem cnt_57 : cnt 57 = 1 := rfl
theorem cnt_58 : cnt 58 = 1 := rfl
theorem cnt_59 : cnt 59 = 1 := rfl
theorem cnt_60 : cnt 60 = 1 := rfl
theorem cnt_61 : cnt 61 = 1 := rfl
theorem cnt_62 : cnt 62 = 1 := rfl
theorem cnt_63 : cnt 63 = 1 := rfl
theorem cnt_64 : cnt 64 = 1 := rfl
theorem cE_0 (E : wEnv) (M : Mem) (i : Nat) : cE E M 0 i = .inr (10, [.ref (ad E 2 0), .ref (ad E 7 0), .ref (ad E 1 0), .ref (ad E 8 4), .ref (ad E 23 4), .ref (ad E 30 0), .ref (ad E 33 0), .ref (ad E 34 0), .ref (ad E 36 0), .ref (ad E 20 4), .ref (ad E 44 0), .ref (ad E 44 1), .int (M.1 0 i 12), .int (M.1 0 i 13), .int (M.1 0 i 14), .int (M.1 0 i 15), .int (M.1 0 i 16), .long (M.2 0 i 17), .long (M.2 0 i 18)]) := rfl
theorem cE_1 (E : wEnv) (M : Mem) (i : Nat) : cE E M 1 i = .inl (E.2.1 3, 3, .inr (.inr (.inr (.inr (fun j => some (ad E 7 (j + 1))))))) := rfl
theorem cE_2 (E : wEnv) (M : Mem) (i : Nat) : cE E M 2 i = .inr (6, [.ref (ad E 3 0), .ref (ad E 5 0), .ref (ad E 6 0)]) := rfl
theorem cE_3 (E : wEnv) (M : Mem) (i : Nat) : cE E M 3 i = .inl (E.2.1 5, 4, .inr (.inr (.inr (.inr (fun j => some (ad E 4 j)))))) := rfl
theorem cE_4 (E : wEnv) (M : Mem) (i : Nat) : cE E M 4 i = .inl (E.2.1 2, 60, .inr (.inl (M.2 4 i))) := rfl
theorem cE_5 (E : wEnv) (M : Mem) (i : Nat) : cE E M 5 i = .inl (E.2.1 0, 4, .inl (M.1 5 i)) := rfl
theorem cE_6 (E : wEnv) (M : Mem) (i : Nat) : cE E M 6 i = .inl (E.2.1 0, 4, .inl (M.1 6 i)) := rfl
theorem cE_7 (E : wEnv) (M : Mem) (i : Nat) : cE E M 7 i = .inr (9, [.ref (ad E 8 i), .ref (ad E 20 i), .ref (ad E 23 i)]) := rfl
theorem cE_8 (E : wEnv) (M : Mem) (i : Nat) : cE E M 8 i = .inr (1, [.ref (ad E 9 i), .ref (ad E 10 i), .ref (ad E 11 i), .ref (ad E 12 i), .ref (ad E 13 i), .ref (ad E 14 i), .ref (ad E 15 i), .ref (ad E 16 i), .ref (ad E 17 i), .ref (ad E 18 i), .ref (ad E 19 i), .int (M.1 8 i 11), .int (M.1 8 i 12)]) := rfl
theorem cE_9 (E : wEnv) (M : Mem) (i : Nat) : cE E M 9 i = .inl (E.2.1 0, 4, .inl (M.1 9 i)) := rfl
theorem cE_10 (E : wEnv) (M : Mem) (i : Nat) : cE E M 10 i = .inl (E.2.1 2, 40, .inr (.inl (M.2 10 i))) := rfl
theorem cE_11 (E : wEnv) (M : Mem) (i : Nat) : cE E M 11 i = .inl (E.2.1 0, 10, .inl (M.1 11 i)) := rfl
theorem cE_12 (E : wEnv) (M : Mem) (i : Nat) : cE E M 12 i = .inl (E.2.1 0, 10, .inl (M.1 12 i)) := rfl
theorem cE_13 (E : wEnv) (M : Mem) (i : Nat) : cE E M 13 i = .inl (E.2.1 0, 10, .inl (M.1 13 i)) := rfl
theorem cE_14 (E : wEnv) (M : Mem) (i : Nat) : cE E M 14 i = .inl (E.2.1 0, 100, .inl (M.1 14 i)) := rfl
theorem cE_15 (E : wEnv) (M : Mem) (i : Nat) : cE E M 15 i = .inl (E.2.1 0, 10, .inl (M.1 15 i)) := rfl
theorem cE_16 (E : wEnv) (M : Mem) (i : Nat) : cE E M 16 i = .inl (E.2.1 0, 6, .inl (M.1 16 i)) := rfl
theorem cE_17 (E : wEnv) (M : Mem) (i : Nat) : cE E M 17 i = .inl (E.2.1 0, 6, .inl (M.1 17 i)) := rfl
theorem cE_18 (E : wEnv) (M : Mem) (i : Nat) : cE E M 18 i = .inl (E.2.1 0, 6, .inl (M.1 18 i)) := rfl
theorem cE_19 (E : wEnv) (M : Mem) (i : Nat) : cE E M 19 i = .inl (E.2.1 0, 24, .inl (M.1 19 i)) := rfl
theorem cE_20 (E : wEnv) (M : Mem) (i : Nat) : cE E M 20 i = .inr (3, [.ref (ad E 21 i), .ref (ad E 22 i), .int (M.1 20 i 2), .int (M.1 20 i 3), .int (M.1 20 i 4), .int (M.1 20 i 5), .int (M.1 20 i 6), .int (M.1 20 i 7)]) := rfl
theorem cE_21 (E : wEnv) (M : Mem) (i : Nat) : cE E M 21 i = .inl (E.2.1 0, 10, .inl (M.1 21 i)) := rfl
theorem cE_22 (E : wEnv) (M : Mem) (i : Nat) : cE E M 22 i = .inl (E.2.1 0, 4, .inl (M.1 22 i)) := rfl
theorem cE_23 (E : wEnv) (M : Mem) (i : Nat) : cE E M 23 i = .inr (7, [.ref (ad E 24 i), .ref (ad E 25 i), .ref (ad E 26 i), .ref (ad E 27 i), .ref (ad E 28 i), .ref (ad E 29 i), .int (M.1 23 i 6), .int (M.1 23 i 7), .int (M.1 23 i 8)]) := rfl
theorem cE_24 (E : wEnv) (M : Mem) (i : Nat) : cE E M 24 i = .inl (E.2.1 0, 60, .inl (M.1 24 i)) := rfl
theorem cE_25 (E : wEnv) (M : Mem) (i : Nat) : cE E M 25 i = .inl (E.2.1 0, 60, .inl (M.1 25 i)) := rfl
theorem cE_26 (E : wEnv) (M : Mem) (i : Nat) : cE E M 26 i = .inl (E.2.1 0, 60, .inl (M.1 26 i)) := rfl
theorem cE_27 (E : wEnv) (M : Mem) (i : Nat) : cE E M 27 i = .inl (E.2.1 0, 60, .inl (M.1 27 i)) := rfl
theorem cE_28 (E : wEnv) (M : Mem) (i : Nat) : cE E M 28 i = .inl (E.2.1 0, 60, .inl (M.1 28 i)) := rfl
theorem cE_29 (E : wEnv) (M : Mem) (i : Nat) : cE E M 29 i = .inl (E.2.1 0, 60, .inl (M.1 29 i)) := rfl
theorem cE_30 (E : wEnv) (M : Mem) (i : Nat) : cE E M 30 i = .inr (5, [.ref (ad E 31 0), .ref (ad E 32 0), .int (M.1 30 i 2), .int (M.1 30 i 3), .int (M.1 30 i 4), .int (M.1 30 i 5), .int (M.1 30 i 6), .int (M.1 30 i 7), .long (M.2 30 i 8), .int (M.1 30 i 9), .int (M.1 30 i 10), .int (M.1 30 i 11)]) := rfl
theorem cE_31 (E : wEnv) (M : Mem) (i : Nat) : cE E M 31 i = .inl (E.2.1 1, 900, .inl (M.1 31 i)) := rfl
theorem cE_32 (E : wEnv) (M : Mem) (i : Nat) : cE E M 32 i = .inl (E.2.1 2, 30, .inr (.inl (M.2 32 i))) := rfl
theorem cE_33 (E : wEnv) (M : Mem) (i : Nat) : cE E M 33 i = .inr (2, [.int (M.1 33 i 0)]) := rfl
theorem cE_34 (E : wEnv) (M : Mem) (i : Nat) : cE E M 34 i = .inr (8, [.ref (ad E 35 0), .int (M.1 34 i 1)]) := rfl
theorem cE_35 (E : wEnv) (M : Mem) (i : Nat) : cE E M 35 i = .inl (E.2.1 0, 3, .inl (M.1 35 i)) := rfl
theorem cE_36 (E : wEnv) (M : Mem) (i : Nat) : cE E M 36 i = .inr (0, [.ref (ad E 37 0), .ref (ad E 38 0), .ref (ad E 39 0), .ref (ad E 40 0), .ref (ad E 41 0), .ref (ad E 42 0), .ref (ad E 43 0), .int (M.1 36 i 7), .int (M.1 36 i 8), .int (M.1 36 i 9), .int (M.1 36 i 10)]) := rfl
theorem cE_37 (E : wEnv) (M : Mem) (i : Nat) : cE E M 37 i = .inl (E.2.1 2, 201, .inr (.inl (M.2 37 i))) := rfl
theorem cE_38 (E : wEnv) (M : Mem) (i : Nat) : cE E M 38 i = .inl (E.2.1 2, 201, .inr (.inl (M.2 38 i))) := rfl
theorem cE_39 (E : wEnv) (M : Mem) (i : Nat) : cE E M 39 i = .inl (E.2.1 4, 5, .inr (.inr (.inr (.inr (fun j => some (ad E 20 (j + 5))))))) := rfl
theorem cE_40 (E : wEnv) (M : Mem) (i : Nat) : cE E M 40 i = .inl (E.2.1 0, 4, .inl (M.1 40 i)) := rfl
theorem cE_41 (E : wEnv) (M : Mem) (i : Nat) : cE E M 41 i = .inl (E.2.1 0, 6, .inl (M.1 41 i)) := rfl
theorem cE_42 (E : wEnv) (M : Mem) (i : Nat) : cE E M 42 i = .inl (E.2.1 0, 4, .inl (M.1 42 i)) := rfl
theorem cE_43 (E : wEnv) (M : Mem) (i : Nat) : cE E M 43 i = .inl (E.2.1 0, 6, .inl (M.1 43 i)) := rfl
theorem cE_44 (E : wEnv) (M : Mem) (i : Nat) : cE E M 44 i = .inr (4, [.ref (ad E 45 i), .int (M.1 44 i 1), .int (M.1 44 i 2), .int (M.1 44 i 3), .int (M.1 44 i 4), .int (M.1 44 i 5), .int (M.1 44 i 6), .int (M.1 44 i 7)]) := rfl
theorem cE_45 (E : wEnv) (M : Mem) (i : Nat) : cE E M 45 i = .inl (E.2.1 0, 60, .inl (M.1 45 i)) := rfl
theorem cE_50 (E : wEnv) (M : Mem) (i : Nat) : cE E M 50 i = .inr (11, [.int (M.1 50 i 0), .int (M.1 50 i 1), .long (M.2 50 i 2), .long (M.2 50 i 3), .ref (ad E 51 0), .ref (ad E 52 0), .ref (ad E 53 0), .ref (ad E 54 0), .int (M.1 50 i 8), .int (M.1 50 i 9), .int (M.1 50 i 10), .int (M.1 50 i 11), .int (M.1 50 i 12), .int (M.1 50 i 13), .int (M.1 50 i 14), .int (M.1 50 i 15), .int (M.1 50 i 16), .int (M.1 50 i 17), .int (M.1 50 i 18), .long (M.2 50 i 19), .ref (ad E 55 0), .ref (ad E 56 0), .ref (ad E 57 0), .int (M.1 50 i 23), .int (M.1 50 i 24), .int (M.1 50 i 25), .ref (ad E 58 0), .ref (ad E 59 0), .ref (ad E 60 0), .ref (ad E 61 0), .int (M.1 50 i 30), .int (M.1 50 i 31), .int (M.1 50 i 32), .int (M.1 50 i 33), .ref (ad E 62 0), .ref (ad E 63 0), .ref (ad E 64 0), .int (M.1 50 i 37), .int (M.1 50 i 38), .int (M.1 50 i 39), .int (M.1 50 i 40), .int (M.1 50 i 41), .int (M.1 50 i 42), .int (M.1 50 i 43), .int (M.1 50 i 44), .int (M.1 50 i 45)]) := rfl
theorem cE_51 (E : wEnv) (M : Mem) (i : Nat) : cE E M 51 i = .inl (E.2.1 0, 4, .inl (M.1 51 i)) := rfl
theorem cE_52 (E : wEnv) (M : Mem) (i : Nat) : cE E M 52 i = .inl (E.2.1 0, 4, .inl (M.1 52 i)) := rfl
theorem cE_53 (E : wEnv) (M : Mem) (i : Nat) : cE E M 53 i = .inl (E.2.1 2, 240, .inr (.inl (M.2 53 i))) := rfl
theorem cE_54 (E : wEnv) (M : Mem) (i : Nat) : cE E M 54 i = .inl (E.2.1 1, 900, .inl (M.1 54 i)) := rfl
theorem cE_55 (E : wEnv) (M : Mem) (i : Nat) : cE E M 55 i = .inl (E.2.1 0, 2375, .inl (M.1 55 i)) := rfl
theorem cE_56 (E : wEnv) (M : Mem) (i : Nat) : cE E M 56 i = .inl (E.2.1 0, 198, .inl (M.1 56 i)) := rfl
theorem cE_57 (E : wEnv) (M : Mem) (i : Nat) : cE E M 57 i = .inl (E.2.1 2, 130, .inr (.inl (M.2 57 i))) := rfl
theorem cE_58 (E : wEnv) (M : Mem) (i : Nat) : cE E M 58 i = .inl (E.2.1 0, 2010, .inl (M.1 58 i)) := rfl
theorem cE_59 (E : wEnv) (M : Mem) (i : Nat) : cE E M 59 i = .inl (E.2.1 0, 4, .inl (M.1 59 i)) := rfl
theorem cE_60 (E : wEnv) (M : Mem) (i : Nat) : cE E M 60 i = .inl (E.2.1 0, 4, .inl (M.1 60 i)) := rfl
theorem cE_61 (E : wEnv) (M : Mem) (i : Nat) : cE E M 61 i = .inl (E.2.1 0, 990, .inl (M.1 61 i)) := rfl
theorem cE_62 (E : wEnv) (M : Mem) (i : Nat) : cE E M 62 i = .inl (E.2.1 0, 126, .inl (M.1 62 i)) := rfl
theorem cE_63 (E : wEnv) (M : Mem) (i : Nat) : cE E M 63 i = .inl (E.2.1 0, 5, .inl (M.1 63 i)) := rfl
theorem cE_64 (E : wEnv) (M : Mem) (i : Nat) : cE E M 64 i = .inl (E.2.1 0, 198, .inl (M.1 64 i)) := rfl
theorem kOF_lt : ∀ c, c < 66 → ∀ i, i < cnt c → (kOF.getD c []).getD i 0 < kTot := by decide +kernel
def kORD : List (Nat × Nat) := [(0, 0), (2, 0), (3, 0), (4, 0), (4, 1), (4, 2), (4, 3), (5, 0), (6, 0), (7, 0), (8, 0), (9, 0), (10, 0), (11, 0), (12, 0), (13, 0), (14, 0), (15, 0), (16, 0), (17, 0), (18, 0), (19, 0), (20, 0), (21, 0), (22, 0), (23, 0), (24, 0), (25, 0), (26, 0), (27, 0), (28, 0), (29, 0), (1, 0), (8, 4), (9, 4), (10, 4), (11, 4), (12, 4), (13, 4), (14, 4), (15, 4), (16, 4), (17, 4), (18, 4), (19, 4), (23, 4), (24, 4), (25, 4), (26, 4), (27, 4), (28, 4), (29, 4), (30, 0), (31, 0), (32, 0), (33, 0), (34, 0), (35, 0), (36, 0), (37, 0), (38, 0), (39, 0), (40, 0), (41, 0), (42, 0), (43, 0), (20, 5), (21, 5), (22, 5), (20, 6), (21, 6), (22, 6), (20, 7), (21, 7), (22, 7), (20, 8), (21, 8), (22, 8), (20, 9), (21, 9), (22, 9), (20, 4), (21, 4), (22, 4), (44, 0), (45, 0), (44, 1), (45, 1), (7, 1), (8, 1), (9, 1), (10, 1), (11, 1), (12, 1), (13, 1), (14, 1), (15, 1), (16, 1), (17, 1), (18, 1), (19, 1), (20, 1), (21, 1), (22, 1), (23, 1), (24, 1), (25, 1), (26, 1), (27, 1), (28, 1), (29, 1), (7, 2), (8, 2), (9, 2), (10, 2), (11, 2), (12, 2), (13, 2), (14, 2), (15, 2), (16, 2), (17, 2), (18, 2), (19, 2), (20, 2), (21, 2), (22, 2), (23, 2), (24, 2), (25, 2), (26, 2), (27, 2), (28, 2), (29, 2), (7, 3), (8, 3), (9, 3), (10, 3), (11, 3), (12, 3), (13, 3), (14, 3), (15, 3), (16, 3), (17, 3), (18, 3), (19, 3), (20, 3), (21, 3), (22, 3), (23, 3), (24, 3), (25, 3), (26, 3), (27, 3), (28, 3), (29, 3), (50, 0), (51, 0), (52, 0), (53, 0), (54, 0), (55, 0), (56, 0), (57, 0), (58, 0), (59, 0), (60, 0), (61, 0), (62, 0), (63, 0), (64, 0)]
theorem kORD_ok : ∀ c, c < 66 → ∀ i, i < cnt c → kORD[(kOF.getD c []).getD i 0]? = some (c, i) := by decide +kernel
theorem kOF_inj : ∀ c, c < 66 → ∀ i, i < cnt c → ∀ c2, c2 < 66 → ∀ i2, i2 < cnt c2 → (kOF.getD c []).getD i 0 = (kOF.getD c2 []).getD i2 0 → c = c2 ∧ i = i2 := by
  intro c hc i hi c2 hc2 i2 hi2 h
  have h1 := kORD_ok c hc i hi
  have h2 := kORD_ok c2 hc2 i2 hi2
  rw [h, h2] at h1
  exact ⟨(Prod.mk.inj (Option.some.inj h1)).1.symm, (Prod.mk.inj (Option.some.inj h1)).2.symm⟩
theorem cnt_big {c : Nat} (h : 66 ≤ c) : cnt c = 0 := by
  have : kOF[c]? = none := List.getElem?_eq_none (by show 66 ≤ c; exact h)
  simp [cnt, List.getD, this]
