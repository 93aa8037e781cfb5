noncomputable def f_X0_pack_5 (i0 : Nat) (x1 : Int32) (M : Mem) : Nat → Int64 → Int32 → Option Int64
  | 0, _, _ => none
  | n + 1, l2, x4 =>
  if x4 < (x1 + (5 : Int32)) then
    if inb x4 10 = true then
     let l2_2 := (((l2 * (256 : Int64)) + (M.1 21 i0 x4.toNatClampNeg).toInt64) + (99 : Int64))
     f_X0_pack_5 i0 x1 M n l2_2 (x4 + (1 : Int32))
    else none
  else
    some l2
noncomputable def f_X0_pack (i0 : Nat) (x1 : Int32) (M : Mem) : Option Int64 :=
  f_X0_pack_5 i0 x1 M FU (0 : Int64) x1
set_option maxRecDepth 20000 in
set_option maxHeartbeats 2000000 in
theorem b_X0_pack_5 {E : wEnv} {Y : YT} (C : Cx E Y cX0_pack 5 RX0 0) {q : Int64} {M : Mem} (R : Rx E Y (some .long) (some (.long q)) M) {i0 : Nat} {x1 : Int32} (hi0 : i0 < cnt 20) (n : Nat) : ∀ {l2 : Int64} {x4 : Int32} (_ : f_X0_pack_5 i0 x1 M n l2 x4 = some q), G E Y 5 M 5 [(0, .ref (ad E 20 i0)), (1, .int x1), (2, .long l2), (4, .int x4)] [] := by
  induction n with
  | zero =>
    intro l2 x4 h
    cases (show none = some q from h)
  | succ n ih =>
    intro l2 x4 h
    rw [f_X0_pack_5] at h
    refine g_iload C dX0_pack_5 rfl ?_
    refine g_iload_n C dX0_pack_7 rfl rfl ?_
    refine g_iconst (v := (5 : Int32)) C dX0_pack_8 (by decide) ?_
    refine g_iadd C dX0_pack_9 ?_
    refine g_icmp_ge (tgt := 38) C dX0_pack_10 (by decide) h (fun h => ?_) (fun h => ?_)
    · refine g_lload_n C dX0_pack_38 rfl rfl ?_
      exact g_lret C R dX0_pack_39 (Option.some.inj h) rfl
    · refine g_lload_n C dX0_pack_13 rfl rfl ?_
      refine g_ldc2 C dX0_pack_14 qc_X0_59 ?_
      refine g_lmul C dX0_pack_17 ?_
      refine g_aload_n C dX0_pack_18 rfl rfl ?_
      refine get_X0_61 C dX0_pack_19 hi0 ?_
      refine g_iload C dX0_pack_22 rfl ?_
      obtain ⟨hb1, h⟩ := of_ite h
      refine ld_21 (j := _) C dX0_pack_24 (Nat.lt_of_lt_of_le hi0 (by decide : cnt 20 ≤ cnt 21)) hb1 rfl ?_
      refine g_i2l C dX0_pack_25 ?_
      refine g_ladd C dX0_pack_26 ?_
      refine g_ldc2 C dX0_pack_27 qc_X0_64 ?_
      refine g_ladd C dX0_pack_30 ?_
      refine g_lstore_n C dX0_pack_31 rfl rfl ?_
      refine g_iinc (w := (1 : Int32)) C dX0_pack_32 rfl (by decide) rfl ?_
      refine g_goto (tgt := 5) C dX0_pack_35 (by decide) ?_
      exact g_sub (ih h) ⟨rfl, rfl, rfl, rfl, trivial⟩
set_option maxRecDepth 20000 in
set_option maxHeartbeats 2000000 in
theorem c_X0_pack (E : wEnv) {i0 : Nat} {x1 : Int32} {M : Mem} {q : Int64} (hi0 : i0 < cnt 20) (h : f_X0_pack i0 x1 M = some q) : Mt E yX0_pack cX0_pack 5 (some .long) 0 [.ref (ad E 20 i0), .int x1] M (some (.long q)) M := by
  unfold f_X0_pack at h
  refine mt_intro (own := RX0) (lv0 := [(0, .ref (ad E 20 i0)), (1, .int x1)]) (by decide) rfl rfl rfl (fun Y C R => ?_)
  refine g_lconst (v := (0 : Int64)) C dX0_pack_0 (by decide) ?_
  refine g_lstore_n C dX0_pack_1 rfl rfl ?_
  refine g_iload_n C dX0_pack_2 rfl rfl ?_
  refine g_istore C dX0_pack_3 rfl ?_
  exact g_sub (b_X0_pack_5 C R hi0 _ h) ⟨rfl, rfl, rfl, rfl, trivial⟩
noncomputable def f_X3_isSeated (i0 : Nat) (x1 : Int32) (M : Mem) : Option Int32 :=
  if (((M.1 20 i0 2) >>> (x1 &&& 31)) &&& (1 : Int32)) = 0 then
    some (0 : Int32)
  else
    some (1 : Int32)
set_option maxRecDepth 20000 in
set_option maxHeartbeats 2000000 in
theorem c_X3_isSeated (E : wEnv) {i0 : Nat} {x1 : Int32} {M : Mem} {q : Int32} (hi0 : i0 < cnt 20) (h : f_X3_isSeated i0 x1 M = some q) : Mt E yX3_isSeated cX3_isSeated 2 (some .boolean) 0 [.ref (ad E 20 i0), .int x1] M (some (.int q)) M := by
  unfold f_X3_isSeated at h
  refine mt_intro (own := RX3) (lv0 := [(0, .ref (ad E 20 i0)), (1, .int x1)]) (by decide) rfl rfl rfl (fun Y C R => ?_)
  refine g_aload_n C dX3_isSeated_0 rfl rfl ?_
  refine get_X3_18 C dX3_isSeated_1 hi0 ?_
  refine g_iload_n C dX3_isSeated_4 rfl rfl ?_
  refine g_ishr C dX3_isSeated_5 ?_
  refine g_iconst (v := (1 : Int32)) C dX3_isSeated_6 (by decide) ?_
  refine g_iand C dX3_isSeated_7 ?_
  refine g_if_eq (tgt := 15) C dX3_isSeated_8 (by decide) h (fun h => ?_) (fun h => ?_)
  · refine g_iconst (v := (0 : Int32)) C dX3_isSeated_15 (by decide) ?_
    exact g_zret C R dX3_isSeated_16 (Option.some.inj h) (Or.inl rfl) rfl
  · refine g_iconst (v := (1 : Int32)) C dX3_isSeated_11 (by decide) ?_
    refine g_goto (tgt := 16) C dX3_isSeated_12 (by decide) ?_
    exact g_zret C R dX3_isSeated_16 (Option.some.inj h) (Or.inr rfl) rfl
noncomputable def f_X3_pullOn_18 (i0 : Nat) (i1 : Nat) (x2 : Int32) (x3 : Int32) (M : Mem) : Nat → Int32 → Int32 → Option Int32
  | 0, _, _ => none
  | n + 1, x4, x5 =>
  if x5 < (10 : Int32) then
    if (x3 >>> (x5 &&& 31)) = 0 then
      if inb x2 10 = true then
       if (M.1 12 i1 x2.toNatClampNeg) < (jabs x4) then
         some x4
       else
         some (0 : Int32)
      else none
    else
      if ((x3 >>> (x5 &&& 31)) &&& (1 : Int32)) = 0 then
        f_X3_pullOn_18 i0 i1 x2 x3 M n x4 (x5 + (1 : Int32))
      else
        if inb ((x2 * (10 : Int32)) + x5) 100 = true then
         let x6_6 := (M.1 14 i1 (((x2 * (10 : Int32)) + x5).toNatClampNeg))
         if inb x5 10 = true then
          if 0 < (M.1 21 i0 x5.toNatClampNeg) then
            f_X3_pullOn_18 i0 i1 x2 x3 M n (x4 + x6_6) (x5 + (1 : Int32))
          else
            if inb x5 10 = true then
             if (M.1 21 i0 x5.toNatClampNeg) < 0 then
               f_X3_pullOn_18 i0 i1 x2 x3 M n (x4 + (-x6_6)) (x5 + (1 : Int32))
             else
               f_X3_pullOn_18 i0 i1 x2 x3 M n (x4 + (0 : Int32)) (x5 + (1 : Int32))
            else none
         else none
        else none
  else
    if inb x2 10 = true then
     if (M.1 12 i1 x2.toNatClampNeg) < (jabs x4) then
       some x4
     else
       some (0 : Int32)
    else none
noncomputable def f_X3_pullOn (i0 : Nat) (i1 : Nat) (x2 : Int32) (M : Mem) : Option Int32 :=
  if inb x2 10 = true then
   let x3_2 := ((M.1 15 i1 x2.toNatClampNeg) &&& (M.1 20 i0 2))
   f_X3_pullOn_18 i0 i1 x2 x3_2 M FU (0 : Int32) (0 : Int32)
  else none
set_option maxRecDepth 20000 in
set_option maxHeartbeats 2000000 in
theorem b_X3_pullOn_18 {E : wEnv} {Y : YT} (C : Cx E Y cX3_pullOn 7 RX3 1) {q : Int32} {M : Mem} (R : Rx E Y (some .int) (some (.int q)) M) {i0 : Nat} {i1 : Nat} {x2 : Int32} {x3 : Int32} (hi0 : i0 < cnt 20) (hi1 : i1 < cnt 8) (n : Nat) : ∀ {x4 : Int32} {x5 : Int32} (_ : f_X3_pullOn_18 i0 i1 x2 x3 M n x4 x5 = some q), G E Y 7 M 18 [(0, .ref (ad E 20 i0)), (1, .ref (ad E 8 i1)), (2, .int x2), (3, .int x3), (4, .int x4), (5, .int x5)] [] := by
  induction n with
  | zero =>
    intro x4 x5 h
    cases (show none = some q from h)
  | succ n ih =>
    intro x4 x5 h
    rw [f_X3_pullOn_18] at h
    refine g_iload C dX3_pullOn_18 rfl ?_
    refine g_bipush (v := (10 : Int32)) C dX3_pullOn_20 (by decide) ?_
    refine g_icmp_ge (tgt := 98) C dX3_pullOn_22 (by decide) h (fun h => ?_) (fun h => ?_)
    · refine g_iload C dX3_pullOn_98 rfl ?_
      refine call_X3_95 C dX3_pullOn_100 (by decide) rfl ?_
      refine g_aload_n C dX3_pullOn_103 rfl rfl ?_
      refine get_X3_100 C dX3_pullOn_104 hi1 ?_
      refine g_iload_n C dX3_pullOn_107 rfl rfl ?_
      obtain ⟨hb3, h⟩ := of_ite h
      refine ld_12 (j := _) C dX3_pullOn_108 (Nat.lt_of_lt_of_le hi1 (by decide : cnt 8 ≤ cnt 12)) hb3 rfl ?_
      refine g_icmp_le (tgt := 117) C dX3_pullOn_109 (by decide) h (fun h => ?_) (fun h => ?_)
      · refine g_iconst (v := (0 : Int32)) C dX3_pullOn_117 (by decide) ?_
        exact g_iret C R dX3_pullOn_118 (Option.some.inj h) rfl
      · refine g_iload C dX3_pullOn_112 rfl ?_
        refine g_goto (tgt := 118) C dX3_pullOn_114 (by decide) ?_
        exact g_iret C R dX3_pullOn_118 (Option.some.inj h) rfl
    · refine g_iload_n C dX3_pullOn_25 rfl rfl ?_
      refine g_iload C dX3_pullOn_26 rfl ?_
      refine g_ishr C dX3_pullOn_28 ?_
      refine g_if_eq (tgt := 98) C dX3_pullOn_29 (by decide) h (fun h => ?_) (fun h => ?_)
      · refine g_iload C dX3_pullOn_98 rfl ?_
        refine call_X3_95 C dX3_pullOn_100 (by decide) rfl ?_
        refine g_aload_n C dX3_pullOn_103 rfl rfl ?_
        refine get_X3_100 C dX3_pullOn_104 hi1 ?_
        refine g_iload_n C dX3_pullOn_107 rfl rfl ?_
        obtain ⟨hb4, h⟩ := of_ite h
        refine ld_12 (j := _) C dX3_pullOn_108 (Nat.lt_of_lt_of_le hi1 (by decide : cnt 8 ≤ cnt 12)) hb4 rfl ?_
        refine g_icmp_le (tgt := 117) C dX3_pullOn_109 (by decide) h (fun h => ?_) (fun h => ?_)
        · refine g_iconst (v := (0 : Int32)) C dX3_pullOn_117 (by decide) ?_
          exact g_iret C R dX3_pullOn_118 (Option.some.inj h) rfl
        · refine g_iload C dX3_pullOn_112 rfl ?_
          refine g_goto (tgt := 118) C dX3_pullOn_114 (by decide) ?_
          exact g_iret C R dX3_pullOn_118 (Option.some.inj h) rfl
      · refine g_iload_n C dX3_pullOn_32 rfl rfl ?_
        refine g_iload C dX3_pullOn_33 rfl ?_
        refine g_ishr C dX3_pullOn_35 ?_
        refine g_iconst (v := (1 : Int32)) C dX3_pullOn_36 (by decide) ?_
        refine g_iand C dX3_pullOn_37 ?_
        refine g_if_eq (tgt := 92) C dX3_pullOn_38 (by decide) h (fun h => ?_) (fun h => ?_)
        · refine g_iinc (w := (1 : Int32)) C dX3_pullOn_92 rfl (by decide) rfl ?_
          refine g_goto (tgt := 18) C dX3_pullOn_95 (by decide) ?_
          exact g_sub (ih h) ⟨rfl, rfl, rfl, rfl, rfl, rfl, trivial⟩
        · refine g_aload_n C dX3_pullOn_41 rfl rfl ?_
          refine get_X3_112 C dX3_pullOn_42 hi1 ?_
          refine g_iload_n C dX3_pullOn_45 rfl rfl ?_
          refine g_bipush (v := (10 : Int32)) C dX3_pullOn_46 (by decide) ?_
          refine g_imul C dX3_pullOn_48 ?_
          refine g_iload C dX3_pullOn_49 rfl ?_
          refine g_iadd C dX3_pullOn_51 ?_
          obtain ⟨hb5, h⟩ := of_ite h
          refine ld_14 (j := _) C dX3_pullOn_52 (Nat.lt_of_lt_of_le hi1 (by decide : cnt 8 ≤ cnt 14)) hb5 rfl ?_
          refine g_istore C dX3_pullOn_53 rfl ?_
          refine g_iload C dX3_pullOn_55 rfl ?_
          refine g_aload_n C dX3_pullOn_57 rfl rfl ?_
          refine get_X3_9 C dX3_pullOn_58 hi0 ?_
          refine g_iload C dX3_pullOn_61 rfl ?_
          obtain ⟨hb7, h⟩ := of_ite h
          refine ld_21 (j := _) C dX3_pullOn_63 (Nat.lt_of_lt_of_le hi0 (by decide : cnt 20 ≤ cnt 21)) hb7 rfl ?_
          refine g_if_le (tgt := 72) C dX3_pullOn_64 (by decide) h (fun h => ?_) (fun h => ?_)
          · refine g_aload_n C dX3_pullOn_72 rfl rfl ?_
            refine get_X3_9 C dX3_pullOn_73 hi0 ?_
            refine g_iload C dX3_pullOn_76 rfl ?_
            obtain ⟨hb8, h⟩ := of_ite h
            refine ld_21 (j := _) C dX3_pullOn_78 (Nat.lt_of_lt_of_le hi0 (by decide : cnt 20 ≤ cnt 21)) hb8 rfl ?_
            refine g_if_ge (tgt := 88) C dX3_pullOn_79 (by decide) h (fun h => ?_) (fun h => ?_)
            · refine g_iconst (v := (0 : Int32)) C dX3_pullOn_88 (by decide) ?_
              refine g_iadd C dX3_pullOn_89 ?_
              refine g_istore C dX3_pullOn_90 rfl ?_
              refine g_iinc (w := (1 : Int32)) C dX3_pullOn_92 rfl (by decide) rfl ?_
              refine g_goto (tgt := 18) C dX3_pullOn_95 (by decide) ?_
              exact g_sub (ih h) ⟨rfl, rfl, rfl, rfl, rfl, rfl, trivial⟩
            · refine g_iload C dX3_pullOn_82 rfl ?_
              refine g_ineg C dX3_pullOn_84 ?_
              refine g_goto (tgt := 89) C dX3_pullOn_85 (by decide) ?_
              refine g_iadd C dX3_pullOn_89 ?_
              refine g_istore C dX3_pullOn_90 rfl ?_
              refine g_iinc (w := (1 : Int32)) C dX3_pullOn_92 rfl (by decide) rfl ?_
              refine g_goto (tgt := 18) C dX3_pullOn_95 (by decide) ?_
              exact g_sub (ih h) ⟨rfl, rfl, rfl, rfl, rfl, rfl, trivial⟩
          · refine g_iload C dX3_pullOn_67 rfl ?_
            refine g_goto (tgt := 89) C dX3_pullOn_69 (by decide) ?_
            refine g_iadd C dX3_pullOn_89 ?_
            refine g_istore C dX3_pullOn_90 rfl ?_
            refine g_iinc (w := (1 : Int32)) C dX3_pullOn_92 rfl (by decide) rfl ?_
            refine g_goto (tgt := 18) C dX3_pullOn_95 (by decide) ?_
            exact g_sub (ih h) ⟨rfl, rfl, rfl, rfl, rfl, rfl, trivial⟩
set_option maxRecDepth 20000 in
set_option maxHeartbeats 2000000 in
theorem c_X3_pullOn (E : wEnv) {i0 : Nat} {i1 : Nat} {x2 : Int32} {M : Mem} {q : Int32} (hi0 : i0 < cnt 20) (hi1 : i1 < cnt 8) (h : f_X3_pullOn i0 i1 x2 M = some q) : Mt E yX3_pullOn cX3_pullOn 7 (some .int) 1 [.ref (ad E 20 i0), .ref (ad E 8 i1), .int x2] M (some (.int q)) M := by
  unfold f_X3_pullOn at h
  refine mt_intro (own := RX3) (lv0 := [(0, .ref (ad E 20 i0)), (1, .ref (ad E 8 i1)), (2, .int x2)]) (by decide) rfl rfl rfl (fun Y C R => ?_)
  refine g_aload_n C dX3_pullOn_0 rfl rfl ?_
  refine get_X3_109 C dX3_pullOn_1 hi1 ?_
  refine g_iload_n C dX3_pullOn_4 rfl rfl ?_
  obtain ⟨hb1, h⟩ := of_ite h
  refine ld_15 (j := _) C dX3_pullOn_5 (Nat.lt_of_lt_of_le hi1 (by decide : cnt 8 ≤ cnt 15)) hb1 rfl ?_
  refine g_aload_n C dX3_pullOn_6 rfl rfl ?_
  refine get_X3_18 C dX3_pullOn_7 hi0 ?_
  refine g_iand C dX3_pullOn_10 ?_
  refine g_istore_n C dX3_pullOn_11 rfl rfl ?_
  refine g_iconst (v := (0 : Int32)) C dX3_pullOn_12 (by decide) ?_
  refine g_istore C dX3_pullOn_13 rfl ?_
  refine g_iconst (v := (0 : Int32)) C dX3_pullOn_15 (by decide) ?_
  refine g_istore C dX3_pullOn_16 rfl ?_
  exact g_sub (b_X3_pullOn_18 C R hi0 hi1 _ h) ⟨rfl, rfl, rfl, rfl, rfl, rfl, trivial⟩
noncomputable def f_X3_shift (i0 : Nat) (x1 : Int32) (x2 : Int32) (M : Mem) : Option (Int32 × Mem) :=
  if inb x1 10 = true then
   let x3_2 := (M.1 21 i0 x1.toNatClampNeg)
   if (99 : Int32) < (x3_2 + x2) then
     if inb x1 10 = true then
      let M8 := sR M 21 i0 (upd (M.1 21 i0) x1.toNatClampNeg (99 : Int32))
      if (99 : Int32) = x3_2 then
        some ((0 : Int32), M8)
      else
        some ((1 : Int32), M8)
     else none
   else
     if (x3_2 + x2) < (-99 : Int32) then
       if inb x1 10 = true then
        let M6 := sR M 21 i0 (upd (M.1 21 i0) x1.toNatClampNeg (-99 : Int32))
        if (-99 : Int32) = x3_2 then
          some ((0 : Int32), M6)
        else
          some ((1 : Int32), M6)
       else none
     else
       if inb x1 10 = true then
        let M4 := sR M 21 i0 (upd (M.1 21 i0) x1.toNatClampNeg (x3_2 + x2))
        if (x3_2 + x2) = x3_2 then
          some ((0 : Int32), M4)
        else
          some ((1 : Int32), M4)
       else none
  else none
set_option maxRecDepth 20000 in
set_option maxHeartbeats 2000000 in
theorem c_X3_shift (E : wEnv) {i0 : Nat} {x1 : Int32} {x2 : Int32} {M : Mem} {q : (Int32 × Mem)} (hi0 : i0 < cnt 20) (h : f_X3_shift i0 x1 x2 M = some q) : Mt E yX3_shift cX3_shift 5 (some .int) 0 [.ref (ad E 20 i0), .int x1, .int x2] M (some (.int q.1)) q.2 := by
  unfold f_X3_shift at h
  refine mt_intro (own := RX3) (lv0 := [(0, .ref (ad E 20 i0)), (1, .int x1), (2, .int x2)]) (by decide) rfl rfl rfl (fun Y C R => ?_)
  refine g_aload_n C dX3_shift_0 rfl rfl ?_
  refine get_X3_9 C dX3_shift_1 hi0 ?_
  refine g_iload_n C dX3_shift_4 rfl rfl ?_
  obtain ⟨hb1, h⟩ := of_ite h
  refine ld_21 (j := _) C dX3_shift_5 (Nat.lt_of_lt_of_le hi0 (by decide : cnt 20 ≤ cnt 21)) hb1 rfl ?_
  refine g_istore_n C dX3_shift_6 rfl rfl ?_
  refine g_iload_n C dX3_shift_7 rfl rfl ?_
  refine g_iload_n C dX3_shift_8 rfl rfl ?_
  refine g_iadd C dX3_shift_9 ?_
  refine g_istore C dX3_shift_10 rfl ?_
  refine g_iload C dX3_shift_12 rfl ?_
  refine g_bipush (v := (99 : Int32)) C dX3_shift_14 (by decide) ?_
  refine g_icmp_le (tgt := 26) C dX3_shift_16 (by decide) h (fun h => ?_) (fun h => ?_)
  · refine g_iload C dX3_shift_26 rfl ?_
    refine g_bipush (v := (-99 : Int32)) C dX3_shift_28 (by decide) ?_
    refine g_icmp_ge (tgt := 37) C dX3_shift_30 (by decide) h (fun h => ?_) (fun h => ?_)
    · refine g_aload_n C dX3_shift_37 rfl rfl ?_
      refine get_X3_9 C dX3_shift_38 hi0 ?_
      refine g_iload_n C dX3_shift_41 rfl rfl ?_
      refine g_iload C dX3_shift_42 rfl ?_
      obtain ⟨hb3, h⟩ := of_ite h
      refine st_21 (j := _) C dX3_shift_44 (Nat.lt_of_lt_of_le hi0 (by decide : cnt 20 ≤ cnt 21)) hb3 rfl ?_
      refine g_iload C dX3_shift_45 rfl ?_
      refine g_iload_n C dX3_shift_47 rfl rfl ?_
      refine g_icmp_ne (tgt := 55) C dX3_shift_48 (by decide) h (fun h => ?_) (fun h => ?_)
      · refine g_iconst (v := (1 : Int32)) C dX3_shift_55 (by decide) ?_
        exact g_iret C R dX3_shift_56 (fst_of h) (snd_of h)
      · refine g_iconst (v := (0 : Int32)) C dX3_shift_51 (by decide) ?_
        refine g_goto (tgt := 56) C dX3_shift_52 (by decide) ?_
        exact g_iret C R dX3_shift_56 (fst_of h) (snd_of h)
    · refine g_bipush (v := (-99 : Int32)) C dX3_shift_33 (by decide) ?_
      refine g_istore C dX3_shift_35 rfl ?_
      refine g_aload_n C dX3_shift_37 rfl rfl ?_
      refine get_X3_9 C dX3_shift_38 hi0 ?_
      refine g_iload_n C dX3_shift_41 rfl rfl ?_
      refine g_iload C dX3_shift_42 rfl ?_
      obtain ⟨hb5, h⟩ := of_ite h
      refine st_21 (j := _) C dX3_shift_44 (Nat.lt_of_lt_of_le hi0 (by decide : cnt 20 ≤ cnt 21)) hb5 rfl ?_
      refine g_iload C dX3_shift_45 rfl ?_
      refine g_iload_n C dX3_shift_47 rfl rfl ?_
      refine g_icmp_ne (tgt := 55) C dX3_shift_48 (by decide) h (fun h => ?_) (fun h => ?_)
      · refine g_iconst (v := (1 : Int32)) C dX3_shift_55 (by decide) ?_
        exact g_iret C R dX3_shift_56 (fst_of h) (snd_of h)
      · refine g_iconst (v := (0 : Int32)) C dX3_shift_51 (by decide) ?_
        refine g_goto (tgt := 56) C dX3_shift_52 (by decide) ?_
        exact g_iret C R dX3_shift_56 (fst_of h) (snd_of h)
  · refine g_bipush (v := (99 : Int32)) C dX3_shift_19 (by decide) ?_
    refine g_istore C dX3_shift_21 rfl ?_
    refine g_goto (tgt := 37) C dX3_shift_23 (by decide) ?_
    refine g_aload_n C dX3_shift_37 rfl rfl ?_
    refine get_X3_9 C dX3_shift_38 hi0 ?_
    refine g_iload_n C dX3_shift_41 rfl rfl ?_
    refine g_iload C dX3_shift_42 rfl ?_
    obtain ⟨hb7, h⟩ := of_ite h
    refine st_21 (j := _) C dX3_shift_44 (Nat.lt_of_lt_of_le hi0 (by decide : cnt 20 ≤ cnt 21)) hb7 rfl ?_
    refine g_iload C dX3_shift_45 rfl ?_
    refine g_iload_n C dX3_shift_47 rfl rfl ?_
    refine g_icmp_ne (tgt := 55) C dX3_shift_48 (by decide) h (fun h => ?_) (fun h => ?_)
    · refine g_iconst (v := (1 : Int32)) C dX3_shift_55 (by decide) ?_
      exact g_iret C R dX3_shift_56 (fst_of h) (snd_of h)
    · refine g_iconst (v := (0 : Int32)) C dX3_shift_51 (by decide) ?_
      refine g_goto (tgt := 56) C dX3_shift_52 (by decide) ?_
      exact g_iret C R dX3_shift_56 (fst_of h) (snd_of h)
noncomputable def f_X3_guiltyVotes_4 (i0 : Nat) (M : Mem) : Nat → Int32 → Int32 → Option Int32
  | 0, _, _ => none
  | n + 1, x1, x2 =>
  if x2 < (10 : Int32) then
    if ((M.1 20 i0 2) >>> (x2 &&& 31)) = 0 then
      some x1
    else
      if (((M.1 20 i0 2) >>> (x2 &&& 31)) &&& (1 : Int32)) = 0 then
        f_X3_guiltyVotes_4 i0 M n x1 (x2 + (1 : Int32))
      else
        if inb x2 10 = true then
         if 0 < (M.1 21 i0 x2.toNatClampNeg) then
           f_X3_guiltyVotes_4 i0 M n (x1 + (1 : Int32)) (x2 + (1 : Int32))
         else
           f_X3_guiltyVotes_4 i0 M n x1 (x2 + (1 : Int32))
        else none
  else
    some x1
noncomputable def f_X3_guiltyVotes (i0 : Nat) (M : Mem) : Option Int32 :=
  f_X3_guiltyVotes_4 i0 M FU (0 : Int32) (0 : Int32)
set_option maxRecDepth 20000 in
set_option maxHeartbeats 2000000 in
theorem b_X3_guiltyVotes_4 {E : wEnv} {Y : YT} (C : Cx E Y cX3_guiltyVotes 3 RX3 0) {q : Int32} {M : Mem} (R : Rx E Y (some .int) (some (.int q)) M) {i0 : Nat} (hi0 : i0 < cnt 20) (n : Nat) : ∀ {x1 : Int32} {x2 : Int32} (_ : f_X3_guiltyVotes_4 i0 M n x1 x2 = some q), G E Y 3 M 4 [(0, .ref (ad E 20 i0)), (1, .int x1), (2, .int x2)] [] := by
  induction n with
  | zero =>
    intro x1 x2 h
    cases (show none = some q from h)
  | succ n ih =>
    intro x1 x2 h
    rw [f_X3_guiltyVotes_4] at h
    refine g_iload_n C dX3_guiltyVotes_4 rfl rfl ?_
    refine g_bipush (v := (10 : Int32)) C dX3_guiltyVotes_5 (by decide) ?_
    refine g_icmp_ge (tgt := 48) C dX3_guiltyVotes_7 (by decide) h (fun h => ?_) (fun h => ?_)
    · refine g_iload_n C dX3_guiltyVotes_48 rfl rfl ?_
      exact g_iret C R dX3_guiltyVotes_49 (Option.some.inj h) rfl
    · refine g_aload_n C dX3_guiltyVotes_10 rfl rfl ?_
      refine get_X3_18 C dX3_guiltyVotes_11 hi0 ?_
      refine g_iload_n C dX3_guiltyVotes_14 rfl rfl ?_
      refine g_ishr C dX3_guiltyVotes_15 ?_
      refine g_if_eq (tgt := 48) C dX3_guiltyVotes_16 (by decide) h (fun h => ?_) (fun h => ?_)
      · refine g_iload_n C dX3_guiltyVotes_48 rfl rfl ?_
        exact g_iret C R dX3_guiltyVotes_49 (Option.some.inj h) rfl
      · refine g_aload_n C dX3_guiltyVotes_19 rfl rfl ?_
        refine get_X3_18 C dX3_guiltyVotes_20 hi0 ?_
        refine g_iload_n C dX3_guiltyVotes_23 rfl rfl ?_
        refine g_ishr C dX3_guiltyVotes_24 ?_
        refine g_iconst (v := (1 : Int32)) C dX3_guiltyVotes_25 (by decide) ?_
        refine g_iand C dX3_guiltyVotes_26 ?_
        refine g_if_eq (tgt := 42) C dX3_guiltyVotes_27 (by decide) h (fun h => ?_) (fun h => ?_)
        · refine g_iinc (w := (1 : Int32)) C dX3_guiltyVotes_42 rfl (by decide) rfl ?_
          refine g_goto (tgt := 4) C dX3_guiltyVotes_45 (by decide) ?_
          exact g_sub (ih h) ⟨rfl, rfl, rfl, trivial⟩
        · refine g_aload_n C dX3_guiltyVotes_30 rfl rfl ?_
          refine get_X3_9 C dX3_guiltyVotes_31 hi0 ?_
          refine g_iload_n C dX3_guiltyVotes_34 rfl rfl ?_
          obtain ⟨hb1, h⟩ := of_ite h
          refine ld_21 (j := _) C dX3_guiltyVotes_35 (Nat.lt_of_lt_of_le hi0 (by decide : cnt 20 ≤ cnt 21)) hb1 rfl ?_
          refine g_if_le (tgt := 42) C dX3_guiltyVotes_36 (by decide) h (fun h => ?_) (fun h => ?_)
          · refine g_iinc (w := (1 : Int32)) C dX3_guiltyVotes_42 rfl (by decide) rfl ?_
            refine g_goto (tgt := 4) C dX3_guiltyVotes_45 (by decide) ?_
            exact g_sub (ih h) ⟨rfl, rfl, rfl, trivial⟩
          · refine g_iinc (w := (1 : Int32)) C dX3_guiltyVotes_39 rfl (by decide) rfl ?_
            refine g_iinc (w := (1 : Int32)) C dX3_guiltyVotes_42 rfl (by decide) rfl ?_
            refine g_goto (tgt := 4) C dX3_guiltyVotes_45 (by decide) ?_
            exact g_sub (ih h) ⟨rfl, rfl, rfl, trivial⟩
set_option maxRecDepth 20000 in
set_option maxHeartbeats 2000000 in
theorem c_X3_guiltyVotes (E : wEnv) {i0 : Nat} {M : Mem} {q : Int32} (hi0 : i0 < cnt 20) (h : f_X3_guiltyVotes i0 M = some q) : Mt E yX3_guiltyVotes cX3_guiltyVotes 3 (some .int) 0 [.ref (ad E 20 i0)] M (some (.int q)) M := by
  unfold f_X3_guiltyVotes at h
  refine mt_intro (own := RX3) (lv0 := [(0, .ref (ad E 20 i0))]) (by decide) rfl rfl rfl (fun Y C R => ?_)
  refine g_iconst (v := (0 : Int32)) C dX3_guiltyVotes_0 (by decide) ?_
  refine g_istore_n C dX3_guiltyVotes_1 rfl rfl ?_
  refine g_iconst (v := (0 : Int32)) C dX3_guiltyVotes_2 (by decide) ?_
  refine g_istore_n C dX3_guiltyVotes_3 rfl rfl ?_
  exact g_sub (b_X3_guiltyVotes_4 C R hi0 _ h) ⟨rfl, rfl, rfl, trivial⟩
noncomputable def f_J6_bitCount_0f7a4 (x0 : Int32) : Option Int32 :=
  let x0_1 := (x0 - ((iushr x0 (1 : Int32)) &&& (1431655765 : Int32)))
  let x0_2 := ((x0_1 &&& (858993459 : Int32)) + ((iushr x0_1 (2 : Int32)) &&& (858993459 : Int32)))
  let x0_3 := ((x0_2 + (iushr x0_2 (4 : Int32))) &&& (252645135 : Int32))
  let x0_4 := (x0_3 + (iushr x0_3 (8 : Int32)))
  let x0_5 := (x0_4 + (iushr x0_4 (16 : Int32)))
  some (x0_5 &&& (63 : Int32))
set_option maxRecDepth 20000 in
set_option maxHeartbeats 2000000 in
theorem c_J6_bitCount_0f7a4 (E : wEnv) {x0 : Int32} {M : Mem} {q : Int32} (h : f_J6_bitCount_0f7a4 x0 = some q) : Mt E yJ6_bitCount_0f7a4 cJ6_bitCount_0f7a4 1 (some .int) 0 [.int x0] M (some (.int q)) M := by
  unfold f_J6_bitCount_0f7a4 at h
  refine mt_intro (own := RJ6) (lv0 := [(0, .int x0)]) (by decide) rfl rfl rfl (fun Y C R => ?_)
  refine g_iload_n C dJ6_bitCount_0f7a4_0 rfl rfl ?_
  refine g_iload_n C dJ6_bitCount_0f7a4_1 rfl rfl ?_
  refine g_iconst (v := (1 : Int32)) C dJ6_bitCount_0f7a4_2 (by decide) ?_
  refine g_iushr C dJ6_bitCount_0f7a4_3 ?_
  refine g_ldcw C dJ6_bitCount_0f7a4_4 qc_J6_265 ?_
  refine g_iand C dJ6_bitCount_0f7a4_7 ?_
  refine g_isub C dJ6_bitCount_0f7a4_8 ?_
  refine g_istore_n C dJ6_bitCount_0f7a4_9 rfl rfl ?_
  refine g_iload_n C dJ6_bitCount_0f7a4_10 rfl rfl ?_
  refine g_ldcw C dJ6_bitCount_0f7a4_11 qc_J6_266 ?_
  refine g_iand C dJ6_bitCount_0f7a4_14 ?_
  refine g_iload_n C dJ6_bitCount_0f7a4_15 rfl rfl ?_
  refine g_iconst (v := (2 : Int32)) C dJ6_bitCount_0f7a4_16 (by decide) ?_
  refine g_iushr C dJ6_bitCount_0f7a4_17 ?_
  refine g_ldcw C dJ6_bitCount_0f7a4_18 qc_J6_266 ?_
  refine g_iand C dJ6_bitCount_0f7a4_21 ?_
  refine g_iadd C dJ6_bitCount_0f7a4_22 ?_
  refine g_istore_n C dJ6_bitCount_0f7a4_23 rfl rfl ?_
  refine g_iload_n C dJ6_bitCount_0f7a4_24 rfl rfl ?_
  refine g_iload_n C dJ6_bitCount_0f7a4_25 rfl rfl ?_
  refine g_iconst (v := (4 : Int32)) C dJ6_bitCount_0f7a4_26 (by decide) ?_
  refine g_iushr C dJ6_bitCount_0f7a4_27 ?_
  refine g_iadd C dJ6_bitCount_0f7a4_28 ?_
  refine g_ldcw C dJ6_bitCount_0f7a4_29 qc_J6_267 ?_
  refine g_iand C dJ6_bitCount_0f7a4_32 ?_
  refine g_istore_n C dJ6_bitCount_0f7a4_33 rfl rfl ?_
  refine g_iload_n C dJ6_bitCount_0f7a4_34 rfl rfl ?_
  refine g_iload_n C dJ6_bitCount_0f7a4_35 rfl rfl ?_
  refine g_bipush (v := (8 : Int32)) C dJ6_bitCount_0f7a4_36 (by decide) ?_
  refine g_iushr C dJ6_bitCount_0f7a4_38 ?_
  refine g_iadd C dJ6_bitCount_0f7a4_39 ?_
  refine g_istore_n C dJ6_bitCount_0f7a4_40 rfl rfl ?_
  refine g_iload_n C dJ6_bitCount_0f7a4_41 rfl rfl ?_
  refine g_iload_n C dJ6_bitCount_0f7a4_42 rfl rfl ?_
  refine g_bipush (v := (16 : Int32)) C dJ6_bitCount_0f7a4_43 (by decide) ?_
  refine g_iushr C dJ6_bitCount_0f7a4_45 ?_
  refine g_iadd C dJ6_bitCount_0f7a4_46 ?_
  refine g_istore_n C dJ6_bitCount_0f7a4_47 rfl rfl ?_
  refine g_iload_n C dJ6_bitCount_0f7a4_48 rfl rfl ?_
  refine g_bipush (v := (63 : Int32)) C dJ6_bitCount_0f7a4_49 (by decide) ?_
  refine g_iand C dJ6_bitCount_0f7a4_51 ?_
  exact g_iret C R dJ6_bitCount_0f7a4_52 (Option.some.inj h) rfl
noncomputable def f_X3_seatedCount (i0 : Nat) (M : Mem) : Option Int32 :=
  (f_J6_bitCount_0f7a4 (M.1 20 i0 2)).bind fun r1 =>
  some r1
set_option maxRecDepth 20000 in
set_option maxHeartbeats 2000000 in
theorem c_X3_seatedCount (E : wEnv) {i0 : Nat} {M : Mem} {q : Int32} (hi0 : i0 < cnt 20) (h : f_X3_seatedCount i0 M = some q) : Mt E yX3_seatedCount cX3_seatedCount 1 (some .int) 1 [.ref (ad E 20 i0)] M (some (.int q)) M := by
  unfold f_X3_seatedCount at h
  refine mt_intro (own := RX3) (lv0 := [(0, .ref (ad E 20 i0))]) (by decide) rfl rfl rfl (fun Y C R => ?_)
  refine g_aload_n C dX3_seatedCount_0 rfl rfl ?_
  refine get_X3_18 C dX3_seatedCount_1 hi0 ?_
  obtain ⟨r1, hr1, h⟩ := Option.bind_eq_some_iff.mp h
  refine call_X3_69 C dX3_seatedCount_4 (c_J6_bitCount_0f7a4 E hr1) (by decide) rfl ?_
  exact g_iret C R dX3_seatedCount_7 (Option.some.inj h) rfl
noncomputable def f_J6_compare_7cf53 (x0 : Int32) (x1 : Int32) : Option Int32 :=
  if x0 < x1 then
    some (-1 : Int32)
  else
    if x0 = x1 then
      some (0 : Int32)
    else
      some (1 : Int32)
set_option maxRecDepth 20000 in
set_option maxHeartbeats 2000000 in
theorem c_J6_compare_7cf53 (E : wEnv) {x0 : Int32} {x1 : Int32} {M : Mem} {q : Int32} (h : f_J6_compare_7cf53 x0 x1 = some q) : Mt E yJ6_compare_7cf53 cJ6_compare_7cf53 2 (some .int) 0 [.int x0, .int x1] M (some (.int q)) M := by
  unfold f_J6_compare_7cf53 at h
  refine mt_intro (own := RJ6) (lv0 := [(0, .int x0), (1, .int x1)]) (by decide) rfl rfl rfl (fun Y C R => ?_)
  refine g_iload_n C dJ6_compare_7cf53_0 rfl rfl ?_
  refine g_iload_n C dJ6_compare_7cf53_1 rfl rfl ?_
  refine g_icmp_ge (tgt := 9) C dJ6_compare_7cf53_2 (by decide) h (fun h => ?_) (fun h => ?_)
  · refine g_iload_n C dJ6_compare_7cf53_9 rfl rfl ?_
    refine g_iload_n C dJ6_compare_7cf53_10 rfl rfl ?_
    refine g_icmp_ne (tgt := 18) C dJ6_compare_7cf53_11 (by decide) h (fun h => ?_) (fun h => ?_)
    · refine g_iconst (v := (1 : Int32)) C dJ6_compare_7cf53_18 (by decide) ?_
      exact g_iret C R dJ6_compare_7cf53_19 (Option.some.inj h) rfl
    · refine g_iconst (v := (0 : Int32)) C dJ6_compare_7cf53_14 (by decide) ?_
      refine g_goto (tgt := 19) C dJ6_compare_7cf53_15 (by decide) ?_
      exact g_iret C R dJ6_compare_7cf53_19 (Option.some.inj h) rfl
  · refine g_iconst (v := (-1 : Int32)) C dJ6_compare_7cf53_5 (by decide) ?_
    refine g_goto (tgt := 19) C dJ6_compare_7cf53_6 (by decide) ?_
    exact g_iret C R dJ6_compare_7cf53_19 (Option.some.inj h) rfl
noncomputable def f_X3_goHungry_22 (i0 : Nat) (i1 : Nat) (x3 : Int32) : Nat → Int32 → Int32 → Mem → Option (Int32 × Mem)
  | 0, _, _, _ => none
  | n + 1, x4, x5, M =>
  if x5 < (M.1 9 i1 0) then
    (f_X3_isSeated i0 x5 M).bind fun r4 =>
    if r4 = 0 then
      f_X3_goHungry_22 i0 i1 x3 n x4 (x5 + (1 : Int32)) M
    else
      (f_X3_shift i0 x5 x3 M).bind fun q5 =>
      f_X3_goHungry_22 i0 i1 x3 n (x4 + q5.1) (x5 + (1 : Int32)) q5.2
  else
    some (x4, M)
noncomputable def f_X3_goHungry (i0 : Nat) (i1 : Nat) (M : Mem) : Option (Int32 × Mem) :=
  (f_X3_guiltyVotes i0 M).bind fun r1 =>
  (f_X3_seatedCount i0 M).bind fun r2 =>
  (f_J6_compare_7cf53 ((2 : Int32) * r1) r2).bind fun r3 =>
  f_X3_goHungry_22 i0 i1 r3 FU (0 : Int32) (0 : Int32) M
set_option maxRecDepth 20000 in
set_option maxHeartbeats 2000000 in
theorem b_X3_goHungry_22 {E : wEnv} {Y : YT} (C : Cx E Y cX3_goHungry 6 RX3 2) {q : (Int32 × Mem)} (R : Rx E Y (some .int) (some (.int q.1)) q.2) {i0 : Nat} {i1 : Nat} {x3 : Int32} (hi0 : i0 < cnt 20) (hi1 : i1 < cnt 8) (n : Nat) : ∀ {x4 : Int32} {x5 : Int32} {M : Mem} (_ : f_X3_goHungry_22 i0 i1 x3 n x4 x5 M = some q), G E Y 6 M 22 [(0, .ref (ad E 20 i0)), (1, .ref (ad E 8 i1)), (3, .int x3), (4, .int x4), (5, .int x5)] [] := by
  induction n with
  | zero =>
    intro x4 x5 M h
    cases (show none = some q from h)
  | succ n ih =>
    intro x4 x5 M h
    rw [f_X3_goHungry_22] at h
    refine g_iload C dX3_goHungry_22 rfl ?_
    refine g_aload_n C dX3_goHungry_24 rfl rfl ?_
    refine get_X3_47 C dX3_goHungry_25 hi1 ?_
    refine g_iconst (v := (0 : Int32)) C dX3_goHungry_28 (by decide) ?_
    refine ld_9 (j := 0) C dX3_goHungry_29 (Nat.lt_of_lt_of_le hi1 (by decide : cnt 8 ≤ cnt 9)) (by decide) rfl ?_
    refine g_icmp_ge (tgt := 60) C dX3_goHungry_30 (by decide) h (fun h => ?_) (fun h => ?_)
    · refine g_iload C dX3_goHungry_60 rfl ?_
      exact g_iret C R dX3_goHungry_62 (fst_of h) (snd_of h)
    · refine g_aload_n C dX3_goHungry_33 rfl rfl ?_
      refine g_iload C dX3_goHungry_34 rfl ?_
      obtain ⟨r4, hr4, h⟩ := Option.bind_eq_some_iff.mp h
      refine call_X3_91 C dX3_goHungry_36 hi0 (c_X3_isSeated E hi0 hr4) (by decide) rfl ?_
      refine g_if_eq (tgt := 54) C dX3_goHungry_39 (by decide) h (fun h => ?_) (fun h => ?_)
      · refine g_iinc (w := (1 : Int32)) C dX3_goHungry_54 rfl (by decide) rfl ?_
        refine g_goto (tgt := 22) C dX3_goHungry_57 (by decide) ?_
        exact g_sub (ih h) ⟨rfl, rfl, rfl, rfl, rfl, trivial⟩
      · refine g_iload C dX3_goHungry_42 rfl ?_
        refine g_aload_n C dX3_goHungry_44 rfl rfl ?_
        refine g_iload C dX3_goHungry_45 rfl ?_
        refine g_iload_n C dX3_goHungry_47 rfl rfl ?_
        obtain ⟨q5, hr5, h⟩ := Option.bind_eq_some_iff.mp h
        refine call_X3_106 C dX3_goHungry_48 hi0 (c_X3_shift E hi0 hr5) (by decide) rfl ?_
        refine g_iadd C dX3_goHungry_51 ?_
        refine g_istore C dX3_goHungry_52 rfl ?_
        refine g_iinc (w := (1 : Int32)) C dX3_goHungry_54 rfl (by decide) rfl ?_
        refine g_goto (tgt := 22) C dX3_goHungry_57 (by decide) ?_
        exact g_sub (ih h) ⟨rfl, rfl, rfl, rfl, rfl, trivial⟩
set_option maxRecDepth 20000 in
set_option maxHeartbeats 2000000 in
theorem c_X3_goHungry (E : wEnv) {i0 : Nat} {i1 : Nat} {M : Mem} {q : (Int32 × Mem)} (hi0 : i0 < cnt 20) (hi1 : i1 < cnt 8) (h : f_X3_goHungry i0 i1 M = some q) : Mt E yX3_goHungry cX3_goHungry 6 (some .int) 2 [.ref (ad E 20 i0), .ref (ad E 8 i1)] M (some (.int q.1)) q.2 := by
  unfold f_X3_goHungry at h
  refine mt_intro (own := RX3) (lv0 := [(0, .ref (ad E 20 i0)), (1, .ref (ad E 8 i1))]) (by decide) rfl rfl rfl (fun Y C R => ?_)
  refine g_aload_n C dX3_goHungry_0 rfl rfl ?_
  obtain ⟨r1, hr1, h⟩ := Option.bind_eq_some_iff.mp h
  refine call_X3_74 C dX3_goHungry_1 hi0 (c_X3_guiltyVotes E hi0 hr1) (by decide) rfl ?_
  refine g_istore_n C dX3_goHungry_4 rfl rfl ?_
  refine g_iconst (v := (2 : Int32)) C dX3_goHungry_5 (by decide) ?_
  refine g_iload_n C dX3_goHungry_6 rfl rfl ?_
  refine g_imul C dX3_goHungry_7 ?_
  refine g_aload_n C dX3_goHungry_8 rfl rfl ?_
  obtain ⟨r2, hr2, h⟩ := Option.bind_eq_some_iff.mp h
  refine call_X3_78 C dX3_goHungry_9 hi0 (c_X3_seatedCount E hi0 hr2) (by decide) rfl ?_
  obtain ⟨r3, hr3, h⟩ := Option.bind_eq_some_iff.mp h
  refine call_X3_130 C dX3_goHungry_12 (c_J6_compare_7cf53 E hr3) (by decide) rfl ?_
  refine g_istore_n C dX3_goHungry_15 rfl rfl ?_
  refine g_iconst (v := (0 : Int32)) C dX3_goHungry_16 (by decide) ?_
  refine g_istore C dX3_goHungry_17 rfl ?_
  refine g_iconst (v := (0 : Int32)) C dX3_goHungry_19 (by decide) ?_
  refine g_istore C dX3_goHungry_20 rfl ?_
  exact g_sub (b_X3_goHungry_22 C R hi0 hi1 _ h) ⟨rfl, rfl, rfl, rfl, rfl, trivial⟩
noncomputable def f_X3_talkRound_5 (i0 : Nat) (i1 : Nat) (x2 : Int32) : Nat → Int32 → Int32 → Mem → Option (Int32 × Mem)
  | 0, _, _, _ => none
  | n + 1, x3, x4, M =>
  if x4 < (M.1 9 i1 0) then
    (f_X3_isSeated i0 x4 M).bind fun r3 =>
    if r3 = 0 then
      f_X3_talkRound_5 i0 i1 x2 n x3 (x4 + (1 : Int32)) M
    else
      (f_X3_pullOn i0 i1 x4 M).bind fun r4 =>
      (f_X3_shift i0 x4 r4 M).bind fun q5 =>
      f_X3_talkRound_5 i0 i1 x2 n (x3 + q5.1) (x4 + (1 : Int32)) q5.2
  else
    let M1 := sR M 20 i0 (upd (M.1 20 i0) 4 ((M.1 20 i0 4) + (1 : Int32)))
    if x2 = 0 then
      some (x3, M1)
    else
      if (M1.1 20 i0 4) < (M1.1 8 i1 11) then
        some (x3, M1)
      else
        (f_X3_goHungry i0 i1 M1).bind fun q2 =>
        some ((x3 + q2.1), q2.2)
noncomputable def f_X3_talkRound (i0 : Nat) (i1 : Nat) (x2 : Int32) (M : Mem) : Option (Int32 × Mem) :=
  f_X3_talkRound_5 i0 i1 x2 FU (0 : Int32) (0 : Int32) M
set_option maxRecDepth 20000 in
set_option maxHeartbeats 2000000 in
theorem b_X3_talkRound_5 {E : wEnv} {Y : YT} (C : Cx E Y cX3_talkRound 5 RX3 3) {q : (Int32 × Mem)} (R : Rx E Y (some .int) (some (.int q.1)) q.2) {i0 : Nat} {i1 : Nat} {x2 : Int32} (hi0 : i0 < cnt 20) (hi1 : i1 < cnt 8) (n : Nat) : ∀ {x3 : Int32} {x4 : Int32} {M : Mem} (_ : f_X3_talkRound_5 i0 i1 x2 n x3 x4 M = some q), G E Y 5 M 5 [(0, .ref (ad E 20 i0)), (1, .ref (ad E 8 i1)), (2, .int x2), (3, .int x3), (4, .int x4)] [] := by
  induction n with
  | zero =>
    intro x3 x4 M h
    cases (show none = some q from h)
  | succ n ih =>
    intro x3 x4 M h
    rw [f_X3_talkRound_5] at h
    refine g_iload C dX3_talkRound_5 rfl ?_
    refine g_aload_n C dX3_talkRound_7 rfl rfl ?_
    refine get_X3_47 C dX3_talkRound_8 hi1 ?_
    refine g_iconst (v := (0 : Int32)) C dX3_talkRound_11 (by decide) ?_
    refine ld_9 (j := 0) C dX3_talkRound_12 (Nat.lt_of_lt_of_le hi1 (by decide : cnt 8 ≤ cnt 9)) (by decide) rfl ?_
    refine g_icmp_ge (tgt := 47) C dX3_talkRound_13 (by decide) h (fun h => ?_) (fun h => ?_)
    · refine g_aload_n C dX3_talkRound_47 rfl rfl ?_
      refine g_dup C dX3_talkRound_48 rfl ?_
      refine get_X3_25 C dX3_talkRound_49 hi0 ?_
      refine g_iconst (v := (1 : Int32)) C dX3_talkRound_52 (by decide) ?_
      refine g_iadd C dX3_talkRound_53 ?_
      refine put_X3_25 C dX3_talkRound_54 hi0 ?_
      refine g_iload_n C dX3_talkRound_57 rfl rfl ?_
      refine g_if_eq (tgt := 80) C dX3_talkRound_58 (by decide) h (fun h => ?_) (fun h => ?_)
      · refine g_iload_n C dX3_talkRound_80 rfl rfl ?_
        exact g_iret C R dX3_talkRound_81 (fst_of h) (snd_of h)
      · refine g_aload_n C dX3_talkRound_61 rfl rfl ?_
        refine get_X3_25 C dX3_talkRound_62 hi0 ?_
        refine g_aload_n C dX3_talkRound_65 rfl rfl ?_
        refine get_X3_115 C dX3_talkRound_66 hi1 ?_
        refine g_icmp_lt (tgt := 80) C dX3_talkRound_69 (by decide) h (fun h => ?_) (fun h => ?_)
        · refine g_iload_n C dX3_talkRound_80 rfl rfl ?_
          exact g_iret C R dX3_talkRound_81 (fst_of h) (snd_of h)
        · refine g_iload_n C dX3_talkRound_72 rfl rfl ?_
          refine g_aload_n C dX3_talkRound_73 rfl rfl ?_
          refine g_aload_n C dX3_talkRound_74 rfl rfl ?_
          obtain ⟨q2, hr2, h⟩ := Option.bind_eq_some_iff.mp h
          refine call_X3_126 C dX3_talkRound_75 hi0 (c_X3_goHungry E hi0 hi1 hr2) (by decide) rfl ?_
          refine g_iadd C dX3_talkRound_78 ?_
          refine g_istore_n C dX3_talkRound_79 rfl rfl ?_
          refine g_iload_n C dX3_talkRound_80 rfl rfl ?_
          exact g_iret C R dX3_talkRound_81 (fst_of h) (snd_of h)
    · refine g_aload_n C dX3_talkRound_16 rfl rfl ?_
      refine g_iload C dX3_talkRound_17 rfl ?_
      obtain ⟨r3, hr3, h⟩ := Option.bind_eq_some_iff.mp h
      refine call_X3_91 C dX3_talkRound_19 hi0 (c_X3_isSeated E hi0 hr3) (by decide) rfl ?_
      refine g_if_eq (tgt := 41) C dX3_talkRound_22 (by decide) h (fun h => ?_) (fun h => ?_)
      · refine g_iinc (w := (1 : Int32)) C dX3_talkRound_41 rfl (by decide) rfl ?_
        refine g_goto (tgt := 5) C dX3_talkRound_44 (by decide) ?_
        exact g_sub (ih h) ⟨rfl, rfl, rfl, rfl, rfl, trivial⟩
      · refine g_iload_n C dX3_talkRound_25 rfl rfl ?_
        refine g_aload_n C dX3_talkRound_26 rfl rfl ?_
        refine g_iload C dX3_talkRound_27 rfl ?_
        refine g_aload_n C dX3_talkRound_29 rfl rfl ?_
        refine g_aload_n C dX3_talkRound_30 rfl rfl ?_
        refine g_iload C dX3_talkRound_31 rfl ?_
        obtain ⟨r4, hr4, h⟩ := Option.bind_eq_some_iff.mp h
        refine call_X3_122 C dX3_talkRound_33 hi0 (c_X3_pullOn E hi0 hi1 hr4) (by decide) rfl ?_
        obtain ⟨q5, hr5, h⟩ := Option.bind_eq_some_iff.mp h
        refine call_X3_106 C dX3_talkRound_36 hi0 (c_X3_shift E hi0 hr5) (by decide) rfl ?_
        refine g_iadd C dX3_talkRound_39 ?_
        refine g_istore_n C dX3_talkRound_40 rfl rfl ?_
        refine g_iinc (w := (1 : Int32)) C dX3_talkRound_41 rfl (by decide) rfl ?_
        refine g_goto (tgt := 5) C dX3_talkRound_44 (by decide) ?_
        exact g_sub (ih h) ⟨rfl, rfl, rfl, rfl, rfl, trivial⟩
set_option maxRecDepth 20000 in
set_option maxHeartbeats 2000000 in
theorem c_X3_talkRound (E : wEnv) {i0 : Nat} {i1 : Nat} {x2 : Int32} {M : Mem} {q : (Int32 × Mem)} (hi0 : i0 < cnt 20) (hi1 : i1 < cnt 8) (h : f_X3_talkRound i0 i1 x2 M = some q) : Mt E yX3_talkRound cX3_talkRound 5 (some .int) 3 [.ref (ad E 20 i0), .ref (ad E 8 i1), .int x2] M (some (.int q.1)) q.2 := by
  unfold f_X3_talkRound at h
  refine mt_intro (own := RX3) (lv0 := [(0, .ref (ad E 20 i0)), (1, .ref (ad E 8 i1)), (2, .int x2)]) (by decide) rfl rfl rfl (fun Y C R => ?_)
  refine g_iconst (v := (0 : Int32)) C dX3_talkRound_0 (by decide) ?_
  refine g_istore_n C dX3_talkRound_1 rfl rfl ?_
  refine g_iconst (v := (0 : Int32)) C dX3_talkRound_2 (by decide) ?_
  refine g_istore C dX3_talkRound_3 rfl ?_
  exact g_sub (b_X3_talkRound_5 C R hi0 hi1 _ h) ⟨rfl, rfl, rfl, rfl, rfl, trivial⟩
noncomputable def f_X0_settle_34 (k96 : Option (Int32 × Mem)) (i1 : Nat) (i2 : Nat) (x3 : Int32) (M : Mem) : Nat → Int32 → Option (Int32 × Mem)
  | 0, _ => none
  | n + 1, x4 =>
  if x4 < x3 then
    if inb x4 201 = true then
     if inb x3 201 = true then
      if (lg_cmp (M.2 37 0 x4.toNatClampNeg) (M.2 37 0 x3.toNatClampNeg)) = 0 then
        if inb x4 201 = true then
         if inb x3 201 = true then
          if (lg_cmp (M.2 38 0 x4.toNatClampNeg) (M.2 38 0 x3.toNatClampNeg)) = 0 then
            let M11 := sR M 36 0 (upd (M.1 36 0) 9 x4)
            let M12 := sR M11 36 0 (upd (M11.1 36 0) 10 (x3 - x4))
            some ((1 : Int32), M12)
          else
            f_X0_settle_34 k96 i1 i2 x3 M n (x4 + (1 : Int32))
         else none
        else none
      else
        f_X0_settle_34 k96 i1 i2 x3 M n (x4 + (1 : Int32))
     else none
    else none
  else
    k96
noncomputable def f_X0_settle_2 (i1 : Nat) (i2 : Nat) : Nat → Int32 → Mem → Option (Int32 × Mem)
  | 0, _, _ => none
  | n + 1, x3, M =>
  if (200 : Int32) < x3 then
    some ((0 : Int32), M)
  else
    (f_X0_pack i2 (0 : Int32) M).bind fun r1 =>
    if inb x3 201 = true then
     let M3 := sL M 37 0 (vp_updL (M.2 37 0) x3.toNatClampNeg r1)
     (f_X0_pack i2 (5 : Int32) M3).bind fun r4 =>
     if inb x3 201 = true then
      let M6 := sL M3 38 0 (vp_updL (M3.2 38 0) x3.toNatClampNeg r4)
      f_X0_settle_34 (          (f_X3_talkRound i2 i1 (0 : Int32) M6).bind fun q14 =>
          f_X0_settle_2 i1 i2 n (x3 + (1 : Int32)) q14.2) i1 i2 x3 M6 FU (0 : Int32)
     else none
    else none
noncomputable def f_X0_settle (i1 : Nat) (i2 : Nat) (M : Mem) : Option (Int32 × Mem) :=
  f_X0_settle_2 i1 i2 FU (0 : Int32) M
set_option maxRecDepth 20000 in
set_option maxHeartbeats 2000000 in
theorem b_X0_settle_34 {E : wEnv} {Y : YT} (C : Cx E Y cX0_settle 5 RX0 4) {q : (Int32 × Mem)} {M : Mem} (R : Rx E Y (some .boolean) (some (.int q.1)) q.2) {i1 : Nat} {i2 : Nat} {x3 : Int32} (hi1 : i1 < cnt 8) (hi2 : i2 < cnt 20) {k96 : Option (Int32 × Mem)} (hk96 : k96 = some q → G E Y 5 M 96 [(0, .ref (ad E 36 0)), (1, .ref (ad E 8 i1)), (2, .ref (ad E 20 i2)), (3, .int x3)] []) (n : Nat) : ∀ {x4 : Int32} (_ : f_X0_settle_34 k96 i1 i2 x3 M n x4 = some q), G E Y 5 M 34 [(0, .ref (ad E 36 0)), (1, .ref (ad E 8 i1)), (2, .ref (ad E 20 i2)), (3, .int x3), (4, .int x4)] [] := by
  induction n with
  | zero =>
    intro x4 h
    cases (show none = some q from h)
  | succ n ih =>
    intro x4 h
    rw [f_X0_settle_34] at h
    refine g_iload C dX0_settle_34 rfl ?_
    refine g_iload_n C dX0_settle_36 rfl rfl ?_
    refine g_icmp_ge (tgt := 96) C dX0_settle_37 (by decide) h (fun h => ?_) (fun h => ?_)
    · exact g_sub (hk96 h) ⟨rfl, rfl, rfl, rfl, trivial⟩
    · refine g_aload_n C dX0_settle_40 rfl rfl ?_
      refine get_X0_9 C dX0_settle_41 (by decide) ?_
      refine g_iload C dX0_settle_44 rfl ?_
      obtain ⟨hb7, h⟩ := of_ite h
      refine ld_37 (j := _) C dX0_settle_46 (by decide) hb7 rfl ?_
      refine g_aload_n C dX0_settle_47 rfl rfl ?_
      refine get_X0_9 C dX0_settle_48 (by decide) ?_
      refine g_iload_n C dX0_settle_51 rfl rfl ?_
      obtain ⟨hb8, h⟩ := of_ite h
      refine ld_37 (j := _) C dX0_settle_52 (by decide) hb8 rfl ?_
      refine g_lcmp C dX0_settle_53 ?_
      refine g_if_ne (tgt := 90) C dX0_settle_54 (by decide) h (fun h => ?_) (fun h => ?_)
      · refine g_iinc (w := (1 : Int32)) C dX0_settle_90 rfl (by decide) rfl ?_
        refine g_goto (tgt := 34) C dX0_settle_93 (by decide) ?_
        exact g_sub (ih h) ⟨rfl, rfl, rfl, rfl, rfl, trivial⟩
      · refine g_aload_n C dX0_settle_57 rfl rfl ?_
        refine get_X0_15 C dX0_settle_58 (by decide) ?_
        refine g_iload C dX0_settle_61 rfl ?_
        obtain ⟨hb9, h⟩ := of_ite h
        refine ld_38 (j := _) C dX0_settle_63 (by decide) hb9 rfl ?_
        refine g_aload_n C dX0_settle_64 rfl rfl ?_
        refine get_X0_15 C dX0_settle_65 (by decide) ?_
        refine g_iload_n C dX0_settle_68 rfl rfl ?_
        obtain ⟨hb10, h⟩ := of_ite h
        refine ld_38 (j := _) C dX0_settle_69 (by decide) hb10 rfl ?_
        refine g_lcmp C dX0_settle_70 ?_
        refine g_if_ne (tgt := 90) C dX0_settle_71 (by decide) h (fun h => ?_) (fun h => ?_)
        · refine g_iinc (w := (1 : Int32)) C dX0_settle_90 rfl (by decide) rfl ?_
          refine g_goto (tgt := 34) C dX0_settle_93 (by decide) ?_
          exact g_sub (ih h) ⟨rfl, rfl, rfl, rfl, rfl, trivial⟩
        · refine g_aload_n C dX0_settle_74 rfl rfl ?_
          refine g_iload C dX0_settle_75 rfl ?_
          refine put_X0_44 C dX0_settle_77 (by decide) ?_
          refine g_aload_n C dX0_settle_80 rfl rfl ?_
          refine g_iload_n C dX0_settle_81 rfl rfl ?_
          refine g_iload C dX0_settle_82 rfl ?_
          refine g_isub C dX0_settle_84 ?_
          refine put_X0_47 C dX0_settle_85 (by decide) ?_
          refine g_iconst (v := (1 : Int32)) C dX0_settle_88 (by decide) ?_
          exact g_zret C R dX0_settle_89 (fst_of h) (Or.inr rfl) (snd_of h)
set_option maxRecDepth 20000 in
set_option maxHeartbeats 2000000 in
theorem b_X0_settle_2 {E : wEnv} {Y : YT} (C : Cx E Y cX0_settle 5 RX0 4) {q : (Int32 × Mem)} (R : Rx E Y (some .boolean) (some (.int q.1)) q.2) {i1 : Nat} {i2 : Nat} (hi1 : i1 < cnt 8) (hi2 : i2 < cnt 20) (n : Nat) : ∀ {x3 : Int32} {M : Mem} (_ : f_X0_settle_2 i1 i2 n x3 M = some q), G E Y 5 M 2 [(0, .ref (ad E 36 0)), (1, .ref (ad E 8 i1)), (2, .ref (ad E 20 i2)), (3, .int x3)] [] := by
  induction n with
  | zero =>
    intro x3 M h
    cases (show none = some q from h)
  | succ n ih =>
    intro x3 M h
    rw [f_X0_settle_2] at h
    refine g_iload_n C dX0_settle_2 rfl rfl ?_
    refine g_sipush (v := (200 : Int32)) C dX0_settle_3 (by decide) ?_
    refine g_icmp_gt (tgt := 109) C dX0_settle_6 (by decide) h (fun h => ?_) (fun h => ?_)
    · refine g_iconst (v := (0 : Int32)) C dX0_settle_109 (by decide) ?_
      exact g_zret C R dX0_settle_110 (fst_of h) (Or.inl rfl) (snd_of h)
    · refine g_aload_n C dX0_settle_9 rfl rfl ?_
      refine get_X0_9 C dX0_settle_10 (by decide) ?_
      refine g_iload_n C dX0_settle_13 rfl rfl ?_
      refine g_aload_n C dX0_settle_14 rfl rfl ?_
      refine g_iconst (v := (0 : Int32)) C dX0_settle_15 (by decide) ?_
      obtain ⟨r1, hr1, h⟩ := Option.bind_eq_some_iff.mp h
      refine call_X0_51 C dX0_settle_16 (c_X0_pack E hi2 hr1) (by decide) rfl ?_
      obtain ⟨hb2, h⟩ := of_ite h
      refine st_37 (j := _) C dX0_settle_19 (by decide) hb2 rfl ?_
      refine g_aload_n C dX0_settle_20 rfl rfl ?_
      refine get_X0_15 C dX0_settle_21 (by decide) ?_
      refine g_iload_n C dX0_settle_24 rfl rfl ?_
      refine g_aload_n C dX0_settle_25 rfl rfl ?_
      refine g_iconst (v := (5 : Int32)) C dX0_settle_26 (by decide) ?_
      obtain ⟨r4, hr4, h⟩ := Option.bind_eq_some_iff.mp h
      refine call_X0_51 C dX0_settle_27 (c_X0_pack E hi2 hr4) (by decide) rfl ?_
      obtain ⟨hb5, h⟩ := of_ite h
      refine st_38 (j := _) C dX0_settle_30 (by decide) hb5 rfl ?_
      refine g_iconst (v := (0 : Int32)) C dX0_settle_31 (by decide) ?_
      refine g_istore C dX0_settle_32 rfl ?_
      refine g_sub (b_X0_settle_34 C R hi1 hi2 ?_ _ h) ⟨rfl, rfl, rfl, rfl, rfl, trivial⟩
      · clear h
        intro h
        refine g_aload_n C dX0_settle_96 rfl rfl ?_
        refine g_aload_n C dX0_settle_97 rfl rfl ?_
        refine g_iconst (v := (0 : Int32)) C dX0_settle_98 (by decide) ?_
        obtain ⟨q14, hr14, h⟩ := Option.bind_eq_some_iff.mp h
        refine call_X0_55 C dX0_settle_99 hi2 (c_X3_talkRound E hi2 hi1 hr14) (by decide) rfl ?_
        refine g_pop C dX0_settle_102 rfl ?_
        refine g_iinc (w := (1 : Int32)) C dX0_settle_103 rfl (by decide) rfl ?_
        refine g_goto (tgt := 2) C dX0_settle_106 (by decide) ?_
        exact g_sub (ih h) ⟨rfl, rfl, rfl, rfl, trivial⟩
set_option maxRecDepth 20000 in
set_option maxHeartbeats 2000000 in
theorem c_X0_settle (E : wEnv) {i1 : Nat} {i2 : Nat} {M : Mem} {q : (Int32 × Mem)} (hi1 : i1 < cnt 8) (hi2 : i2 < cnt 20) (h : f_X0_settle i1 i2 M = some q) : Mt E yX0_settle cX0_settle 5 (some .boolean) 4 [.ref (ad E 36 0), .ref (ad E 8 i1), .ref (ad E 20 i2)] M (some (.int q.1)) q.2 := by
  unfold f_X0_settle at h
  refine mt_intro (own := RX0) (lv0 := [(0, .ref (ad E 36 0)), (1, .ref (ad E 8 i1)), (2, .ref (ad E 20 i2))]) (by decide) rfl rfl rfl (fun Y C R => ?_)
  refine g_iconst (v := (0 : Int32)) C dX0_settle_0 (by decide) ?_
  refine g_istore_n C dX0_settle_1 rfl rfl ?_
  exact g_sub (b_X0_settle_2 C R hi1 hi2 _ h) ⟨rfl, rfl, rfl, rfl, trivial⟩
noncomputable def f_X3_copyFrom (i0 : Nat) (i1 : Nat) (M : Mem) : Option Mem :=
  let M1 := sR M 21 i0 (va_cpy (M.1 21 i1) (M.1 21 i0) 0 0 10)
  let M2 := sR M1 22 i0 (va_cpy (M1.1 22 i1) (M1.1 22 i0) 0 0 4)
  let M3 := sR M2 20 i0 (upd (M2.1 20 i0) 2 (M2.1 20 i1 2))
  let M4 := sR M3 20 i0 (upd (M3.1 20 i0) 3 (M3.1 20 i1 3))
  let M5 := sR M4 20 i0 (upd (M4.1 20 i0) 4 (M4.1 20 i1 4))
  let M6 := sR M5 20 i0 (upd (M5.1 20 i0) 5 (M5.1 20 i1 5))
  let M7 := sR M6 20 i0 (upd (M6.1 20 i0) 6 (M6.1 20 i1 6))
  let M8 := sR M7 20 i0 (upd (M7.1 20 i0) 7 (M7.1 20 i1 7))
  some M8
set_option maxRecDepth 20000 in
set_option maxHeartbeats 2000000 in
theorem c_X3_copyFrom (E : wEnv) {i0 : Nat} {i1 : Nat} {M : Mem} {q : Mem} (hi0 : i0 < cnt 20) (hi1 : i1 < cnt 20) (h : f_X3_copyFrom i0 i1 M = some q) : Mt E yX3_copyFrom cX3_copyFrom 2 none 1 [.ref (ad E 20 i0), .ref (ad E 20 i1)] M none q := by
  unfold f_X3_copyFrom at h
  refine mt_intro (own := RX3) (lv0 := [(0, .ref (ad E 20 i0)), (1, .ref (ad E 20 i1))]) (by decide) rfl rfl rfl (fun Y C R => ?_)
  refine g_aload_n C dX3_copyFrom_0 rfl rfl ?_
  refine get_X3_9 C dX3_copyFrom_1 hi1 ?_
  refine g_iconst (v := (0 : Int32)) C dX3_copyFrom_4 (by decide) ?_
  refine g_aload_n C dX3_copyFrom_5 rfl rfl ?_
  refine get_X3_9 C dX3_copyFrom_6 hi0 ?_
  refine g_iconst (v := (0 : Int32)) C dX3_copyFrom_9 (by decide) ?_
  refine g_aload_n C dX3_copyFrom_10 rfl rfl ?_
  refine get_X3_9 C dX3_copyFrom_11 hi0 ?_
  refine g_alen (t := 0) (v := (10 : Int32)) C dX3_copyFrom_14 (cE_21 E _ _) rfl (Nat.lt_of_lt_of_le hi0 (by decide : cnt 20 ≤ cnt 21)) rfl ?_
  refine cp_X3_37_21_21 (js := 0) (jd := 0) (jn := 10) C dX3_copyFrom_15 (Nat.lt_of_lt_of_le hi1 (by decide : cnt 20 ≤ cnt 21)) (Nat.lt_of_lt_of_le hi0 (by decide : cnt 20 ≤ cnt 21)) (by decide) rfl rfl rfl (by decide) rfl ?_
  refine g_aload_n C dX3_copyFrom_18 rfl rfl ?_
  refine get_X3_15 C dX3_copyFrom_19 hi1 ?_
  refine g_iconst (v := (0 : Int32)) C dX3_copyFrom_22 (by decide) ?_
  refine g_aload_n C dX3_copyFrom_23 rfl rfl ?_
  refine get_X3_15 C dX3_copyFrom_24 hi0 ?_
  refine g_iconst (v := (0 : Int32)) C dX3_copyFrom_27 (by decide) ?_
  refine g_aload_n C dX3_copyFrom_28 rfl rfl ?_
  refine get_X3_15 C dX3_copyFrom_29 hi0 ?_
  refine g_alen (t := 0) (v := (4 : Int32)) C dX3_copyFrom_32 (cE_22 E _ _) rfl (Nat.lt_of_lt_of_le hi0 (by decide : cnt 20 ≤ cnt 22)) rfl ?_
  refine cp_X3_37_22_22 (js := 0) (jd := 0) (jn := 4) C dX3_copyFrom_33 (Nat.lt_of_lt_of_le hi1 (by decide : cnt 20 ≤ cnt 22)) (Nat.lt_of_lt_of_le hi0 (by decide : cnt 20 ≤ cnt 22)) (by decide) rfl rfl rfl (by decide) rfl ?_
  refine g_aload_n C dX3_copyFrom_36 rfl rfl ?_
  refine g_aload_n C dX3_copyFrom_37 rfl rfl ?_
  refine get_X3_18 C dX3_copyFrom_38 hi1 ?_
  refine put_X3_18 C dX3_copyFrom_41 hi0 ?_
  refine g_aload_n C dX3_copyFrom_44 rfl rfl ?_
  refine g_aload_n C dX3_copyFrom_45 rfl rfl ?_
  refine get_X3_22 C dX3_copyFrom_46 hi1 ?_
  refine put_X3_22 C dX3_copyFrom_49 hi0 ?_
  refine g_aload_n C dX3_copyFrom_52 rfl rfl ?_
  refine g_aload_n C dX3_copyFrom_53 rfl rfl ?_
  refine get_X3_25 C dX3_copyFrom_54 hi1 ?_
  refine put_X3_25 C dX3_copyFrom_57 hi0 ?_
  refine g_aload_n C dX3_copyFrom_60 rfl rfl ?_
  refine g_aload_n C dX3_copyFrom_61 rfl rfl ?_
  refine get_X3_28 C dX3_copyFrom_62 hi1 ?_
  refine put_X3_28 C dX3_copyFrom_65 hi0 ?_
  refine g_aload_n C dX3_copyFrom_68 rfl rfl ?_
  refine g_aload_n C dX3_copyFrom_69 rfl rfl ?_
  refine get_X3_31 C dX3_copyFrom_70 hi1 ?_
  refine put_X3_31 C dX3_copyFrom_73 hi0 ?_
  refine g_aload_n C dX3_copyFrom_76 rfl rfl ?_
  refine g_aload_n C dX3_copyFrom_77 rfl rfl ?_
  refine get_X3_34 C dX3_copyFrom_78 hi1 ?_
  refine put_X3_34 C dX3_copyFrom_81 hi0 ?_
  exact g_vret C R dX3_copyFrom_84 (Option.some.inj h)
noncomputable def f_X10_rule (x0 : Int32) (x1 : Int32) (x2 : Int32) : Option Int32 :=
  if (x1 + x2) = 0 then
    some (0 : Int32)
  else
    if x0 = 0 then
      if (x1 + x2) < ((2 : Int32) * x1) then
        some (1 : Int32)
      else
        some (-1 : Int32)
    else
      if x0 = (1 : Int32) then
        if x1 = (x1 + x2) then
          some (1 : Int32)
        else
          if x2 = (x1 + x2) then
            some (-1 : Int32)
          else
            some (0 : Int32)
      else
        if ((3 : Int32) * x1) < ((2 : Int32) * (x1 + x2)) then
          if ((3 : Int32) * x2) < ((2 : Int32) * (x1 + x2)) then
            some (0 : Int32)
          else
            some (-1 : Int32)
        else
          some (1 : Int32)
set_option maxRecDepth 20000 in
set_option maxHeartbeats 2000000 in
theorem c_X10_rule (E : wEnv) {x0 : Int32} {x1 : Int32} {x2 : Int32} {M : Mem} {q : Int32} (h : f_X10_rule x0 x1 x2 = some q) : Mt E yX10_rule cX10_rule 4 (some .int) 0 [.int x0, .int x1, .int x2] M (some (.int q)) M := by
  unfold f_X10_rule at h
  refine mt_intro (own := RX10) (lv0 := [(0, .int x0), (1, .int x1), (2, .int x2)]) (by decide) rfl rfl rfl (fun Y C R => ?_)
  refine g_iload_n C dX10_rule_0 rfl rfl ?_
  refine g_iload_n C dX10_rule_1 rfl rfl ?_
  refine g_iadd C dX10_rule_2 ?_
  refine g_istore_n C dX10_rule_3 rfl rfl ?_
  refine g_iload_n C dX10_rule_4 rfl rfl ?_
  refine g_if_ne (tgt := 10) C dX10_rule_5 (by decide) h (fun h => ?_) (fun h => ?_)
  · refine g_iload_n C dX10_rule_10 rfl rfl ?_
    refine g_if_ne (tgt := 27) C dX10_rule_11 (by decide) h (fun h => ?_) (fun h => ?_)
    · refine g_iload_n C dX10_rule_27 rfl rfl ?_
      refine g_iconst (v := (1 : Int32)) C dX10_rule_28 (by decide) ?_
      refine g_icmp_ne (tgt := 52) C dX10_rule_29 (by decide) h (fun h => ?_) (fun h => ?_)
      · refine g_iconst (v := (3 : Int32)) C dX10_rule_52 (by decide) ?_
        refine g_iload_n C dX10_rule_53 rfl rfl ?_
        refine g_imul C dX10_rule_54 ?_
        refine g_iconst (v := (2 : Int32)) C dX10_rule_55 (by decide) ?_
        refine g_iload_n C dX10_rule_56 rfl rfl ?_
        refine g_imul C dX10_rule_57 ?_
        refine g_icmp_lt (tgt := 65) C dX10_rule_58 (by decide) h (fun h => ?_) (fun h => ?_)
        · refine g_iconst (v := (3 : Int32)) C dX10_rule_65 (by decide) ?_
          refine g_iload_n C dX10_rule_66 rfl rfl ?_
          refine g_imul C dX10_rule_67 ?_
          refine g_iconst (v := (2 : Int32)) C dX10_rule_68 (by decide) ?_
          refine g_iload_n C dX10_rule_69 rfl rfl ?_
          refine g_imul C dX10_rule_70 ?_
          refine g_icmp_lt (tgt := 78) C dX10_rule_71 (by decide) h (fun h => ?_) (fun h => ?_)
          · refine g_iconst (v := (0 : Int32)) C dX10_rule_78 (by decide) ?_
            exact g_iret C R dX10_rule_79 (Option.some.inj h) rfl
          · refine g_iconst (v := (-1 : Int32)) C dX10_rule_74 (by decide) ?_
            refine g_goto (tgt := 79) C dX10_rule_75 (by decide) ?_
            exact g_iret C R dX10_rule_79 (Option.some.inj h) rfl
        · refine g_iconst (v := (1 : Int32)) C dX10_rule_61 (by decide) ?_
          refine g_goto (tgt := 79) C dX10_rule_62 (by decide) ?_
          exact g_iret C R dX10_rule_79 (Option.some.inj h) rfl
      · refine g_iload_n C dX10_rule_32 rfl rfl ?_
        refine g_iload_n C dX10_rule_33 rfl rfl ?_
        refine g_icmp_ne (tgt := 41) C dX10_rule_34 (by decide) h (fun h => ?_) (fun h => ?_)
        · refine g_iload_n C dX10_rule_41 rfl rfl ?_
          refine g_iload_n C dX10_rule_42 rfl rfl ?_
          refine g_icmp_ne (tgt := 50) C dX10_rule_43 (by decide) h (fun h => ?_) (fun h => ?_)
          · refine g_iconst (v := (0 : Int32)) C dX10_rule_50 (by decide) ?_
            exact g_iret C R dX10_rule_51 (Option.some.inj h) rfl
          · refine g_iconst (v := (-1 : Int32)) C dX10_rule_46 (by decide) ?_
            refine g_goto (tgt := 51) C dX10_rule_47 (by decide) ?_
            exact g_iret C R dX10_rule_51 (Option.some.inj h) rfl
        · refine g_iconst (v := (1 : Int32)) C dX10_rule_37 (by decide) ?_
          refine g_goto (tgt := 51) C dX10_rule_38 (by decide) ?_
          exact g_iret C R dX10_rule_51 (Option.some.inj h) rfl
    · refine g_iconst (v := (2 : Int32)) C dX10_rule_14 (by decide) ?_
      refine g_iload_n C dX10_rule_15 rfl rfl ?_
      refine g_imul C dX10_rule_16 ?_
      refine g_iload_n C dX10_rule_17 rfl rfl ?_
      refine g_icmp_le (tgt := 25) C dX10_rule_18 (by decide) h (fun h => ?_) (fun h => ?_)
      · refine g_iconst (v := (-1 : Int32)) C dX10_rule_25 (by decide) ?_
        exact g_iret C R dX10_rule_26 (Option.some.inj h) rfl
      · refine g_iconst (v := (1 : Int32)) C dX10_rule_21 (by decide) ?_
        refine g_goto (tgt := 26) C dX10_rule_22 (by decide) ?_
        exact g_iret C R dX10_rule_26 (Option.some.inj h) rfl
  · refine g_iconst (v := (0 : Int32)) C dX10_rule_8 (by decide) ?_
    exact g_iret C R dX10_rule_9 (Option.some.inj h) rfl
noncomputable def f_X3_ruling (i0 : Nat) (x1 : Int32) (M : Mem) : Option Int32 :=
  (f_X3_guiltyVotes i0 M).bind fun r1 =>
  (f_X3_seatedCount i0 M).bind fun r2 =>
  (f_X10_rule x1 r1 (r2 - r1)).bind fun r3 =>
  some r3
set_option maxRecDepth 20000 in
set_option maxHeartbeats 2000000 in
theorem c_X3_ruling (E : wEnv) {i0 : Nat} {x1 : Int32} {M : Mem} {q : Int32} (hi0 : i0 < cnt 20) (h : f_X3_ruling i0 x1 M = some q) : Mt E yX3_ruling cX3_ruling 3 (some .int) 2 [.ref (ad E 20 i0), .int x1] M (some (.int q)) M := by
  unfold f_X3_ruling at h
  refine mt_intro (own := RX3) (lv0 := [(0, .ref (ad E 20 i0)), (1, .int x1)]) (by decide) rfl rfl rfl (fun Y C R => ?_)
  refine g_aload_n C dX3_ruling_0 rfl rfl ?_
  obtain ⟨r1, hr1, h⟩ := Option.bind_eq_some_iff.mp h
  refine call_X3_74 C dX3_ruling_1 hi0 (c_X3_guiltyVotes E hi0 hr1) (by decide) rfl ?_
  refine g_istore_n C dX3_ruling_4 rfl rfl ?_
  refine g_iload_n C dX3_ruling_5 rfl rfl ?_
  refine g_iload_n C dX3_ruling_6 rfl rfl ?_
  refine g_aload_n C dX3_ruling_7 rfl rfl ?_
  obtain ⟨r2, hr2, h⟩ := Option.bind_eq_some_iff.mp h
  refine call_X3_78 C dX3_ruling_8 hi0 (c_X3_seatedCount E hi0 hr2) (by decide) rfl ?_
  refine g_iload_n C dX3_ruling_11 rfl rfl ?_
  refine g_isub C dX3_ruling_12 ?_
  obtain ⟨r3, hr3, h⟩ := Option.bind_eq_some_iff.mp h
  refine call_X3_81 C dX3_ruling_13 (c_X10_rule E hr3) (by decide) rfl ?_
  exact g_iret C R dX3_ruling_16 (Option.some.inj h) rfl
noncomputable def f_X3_wasShown (i0 : Nat) (x1 : Int32) (M : Mem) : Option Int32 :=
  if (((M.1 20 i0 3) >>> (x1 &&& 31)) &&& (1 : Int32)) = 0 then
    some (0 : Int32)
  else
    some (1 : Int32)
set_option maxRecDepth 20000 in
set_option maxHeartbeats 2000000 in
theorem c_X3_wasShown (E : wEnv) {i0 : Nat} {x1 : Int32} {M : Mem} {q : Int32} (hi0 : i0 < cnt 20) (h : f_X3_wasShown i0 x1 M = some q) : Mt E yX3_wasShown cX3_wasShown 2 (some .boolean) 0 [.ref (ad E 20 i0), .int x1] M (some (.int q)) M := by
  unfold f_X3_wasShown at h
  refine mt_intro (own := RX3) (lv0 := [(0, .ref (ad E 20 i0)), (1, .int x1)]) (by decide) rfl rfl rfl (fun Y C R => ?_)
  refine g_aload_n C dX3_wasShown_0 rfl rfl ?_
  refine get_X3_22 C dX3_wasShown_1 hi0 ?_
  refine g_iload_n C dX3_wasShown_4 rfl rfl ?_
  refine g_ishr C dX3_wasShown_5 ?_
  refine g_iconst (v := (1 : Int32)) C dX3_wasShown_6 (by decide) ?_
  refine g_iand C dX3_wasShown_7 ?_
  refine g_if_eq (tgt := 15) C dX3_wasShown_8 (by decide) h (fun h => ?_) (fun h => ?_)
  · refine g_iconst (v := (0 : Int32)) C dX3_wasShown_15 (by decide) ?_
    exact g_zret C R dX3_wasShown_16 (Option.some.inj h) (Or.inl rfl) rfl
  · refine g_iconst (v := (1 : Int32)) C dX3_wasShown_11 (by decide) ?_
    refine g_goto (tgt := 16) C dX3_wasShown_12 (by decide) ?_
    exact g_zret C R dX3_wasShown_16 (Option.some.inj h) (Or.inr rfl) rfl
noncomputable def f_X3_present_13 (i0 : Nat) (i1 : Nat) (x2 : Int32) (x3 : Int32) : Nat → Int32 → Int32 → Mem → Option (Int32 × Mem)
  | 0, _, _, _ => none
  | n + 1, x4, x5, M =>
  if x5 < (M.1 9 i1 0) then
    (f_X3_isSeated i0 x5 M).bind fun r4 =>
    if r4 = 0 then
      f_X3_present_13 i0 i1 x2 x3 n x4 (x5 + (1 : Int32)) M
    else
      if inb x5 10 = true then
       let x6_6 := (jmax (0 : Int32) ((jabs x3) - (M.1 12 i1 x5.toNatClampNeg)))
       if x3 < 0 then
         (f_X3_shift i0 x5 (-x6_6) M).bind fun q8 =>
         f_X3_present_13 i0 i1 x2 x3 n (x4 + q8.1) (x5 + (1 : Int32)) q8.2
       else
         (f_X3_shift i0 x5 x6_6 M).bind fun q7 =>
         f_X3_present_13 i0 i1 x2 x3 n (x4 + q7.1) (x5 + (1 : Int32)) q7.2
      else none
  else
    let M3 := sR M 20 i0 (upd (M.1 20 i0) 3 ((M.1 20 i0 3) ||| ((1 : Int32) <<< (x2 &&& 31))))
    some (x4, M3)
noncomputable def f_X3_present (i0 : Nat) (i1 : Nat) (x2 : Int32) (M : Mem) : Option (Int32 × Mem) :=
  if inb x2 6 = true then
   let x3_2 := (M.1 16 i1 x2.toNatClampNeg)
   f_X3_present_13 i0 i1 x2 x3_2 FU (0 : Int32) (0 : Int32) M
  else none
set_option maxRecDepth 20000 in
set_option maxHeartbeats 2000000 in
theorem b_X3_present_13 {E : wEnv} {Y : YT} (C : Cx E Y cX3_present 7 RX3 1) {q : (Int32 × Mem)} (R : Rx E Y (some .int) (some (.int q.1)) q.2) {i0 : Nat} {i1 : Nat} {x2 : Int32} {x3 : Int32} (hi0 : i0 < cnt 20) (hi1 : i1 < cnt 8) (n : Nat) : ∀ {x4 : Int32} {x5 : Int32} {M : Mem} (_ : f_X3_present_13 i0 i1 x2 x3 n x4 x5 M = some q), G E Y 7 M 13 [(0, .ref (ad E 20 i0)), (1, .ref (ad E 8 i1)), (2, .int x2), (3, .int x3), (4, .int x4), (5, .int x5)] [] := by
  induction n with
  | zero =>
    intro x4 x5 M h
    cases (show none = some q from h)
  | succ n ih =>
    intro x4 x5 M h
    rw [f_X3_present_13] at h
    refine g_iload C dX3_present_13 rfl ?_
    refine g_aload_n C dX3_present_15 rfl rfl ?_
    refine get_X3_47 C dX3_present_16 hi1 ?_
    refine g_iconst (v := (0 : Int32)) C dX3_present_19 (by decide) ?_
    refine ld_9 (j := 0) C dX3_present_20 (Nat.lt_of_lt_of_le hi1 (by decide : cnt 8 ≤ cnt 9)) (by decide) rfl ?_
    refine g_icmp_ge (tgt := 80) C dX3_present_21 (by decide) h (fun h => ?_) (fun h => ?_)
    · refine g_aload_n C dX3_present_80 rfl rfl ?_
      refine g_dup C dX3_present_81 rfl ?_
      refine get_X3_22 C dX3_present_82 hi0 ?_
      refine g_iconst (v := (1 : Int32)) C dX3_present_85 (by decide) ?_
      refine g_iload_n C dX3_present_86 rfl rfl ?_
      refine g_ishl C dX3_present_87 ?_
      refine g_ior C dX3_present_88 ?_
      refine put_X3_22 C dX3_present_89 hi0 ?_
      refine g_iload C dX3_present_92 rfl ?_
      exact g_iret C R dX3_present_94 (fst_of h) (snd_of h)
    · refine g_aload_n C dX3_present_24 rfl rfl ?_
      refine g_iload C dX3_present_25 rfl ?_
      obtain ⟨r4, hr4, h⟩ := Option.bind_eq_some_iff.mp h
      refine call_X3_91 C dX3_present_27 hi0 (c_X3_isSeated E hi0 hr4) (by decide) rfl ?_
      refine g_if_eq (tgt := 74) C dX3_present_30 (by decide) h (fun h => ?_) (fun h => ?_)
      · refine g_iinc (w := (1 : Int32)) C dX3_present_74 rfl (by decide) rfl ?_
        refine g_goto (tgt := 13) C dX3_present_77 (by decide) ?_
        exact g_sub (ih h) ⟨rfl, rfl, rfl, rfl, rfl, rfl, trivial⟩
      · refine g_iconst (v := (0 : Int32)) C dX3_present_33 (by decide) ?_
        refine g_iload_n C dX3_present_34 rfl rfl ?_
        refine call_X3_95 C dX3_present_35 (by decide) rfl ?_
        refine g_aload_n C dX3_present_38 rfl rfl ?_
        refine get_X3_100 C dX3_present_39 hi1 ?_
        refine g_iload C dX3_present_42 rfl ?_
        obtain ⟨hb5, h⟩ := of_ite h
        refine ld_12 (j := _) C dX3_present_44 (Nat.lt_of_lt_of_le hi1 (by decide : cnt 8 ≤ cnt 12)) hb5 rfl ?_
        refine g_isub C dX3_present_45 ?_
        refine call_X3_103 C dX3_present_46 (by decide) rfl ?_
        refine g_istore C dX3_present_49 rfl ?_
        refine g_iload C dX3_present_51 rfl ?_
        refine g_aload_n C dX3_present_53 rfl rfl ?_
        refine g_iload C dX3_present_54 rfl ?_
        refine g_iload_n C dX3_present_56 rfl rfl ?_
        refine g_if_ge (tgt := 66) C dX3_present_57 (by decide) h (fun h => ?_) (fun h => ?_)
        · refine g_iload C dX3_present_66 rfl ?_
          obtain ⟨q7, hr7, h⟩ := Option.bind_eq_some_iff.mp h
          refine call_X3_106 C dX3_present_68 hi0 (c_X3_shift E hi0 hr7) (by decide) rfl ?_
          refine g_iadd C dX3_present_71 ?_
          refine g_istore C dX3_present_72 rfl ?_
          refine g_iinc (w := (1 : Int32)) C dX3_present_74 rfl (by decide) rfl ?_
          refine g_goto (tgt := 13) C dX3_present_77 (by decide) ?_
          exact g_sub (ih h) ⟨rfl, rfl, rfl, rfl, rfl, rfl, trivial⟩
        · refine g_iload C dX3_present_60 rfl ?_
          refine g_ineg C dX3_present_62 ?_
          refine g_goto (tgt := 68) C dX3_present_63 (by decide) ?_
          obtain ⟨q8, hr8, h⟩ := Option.bind_eq_some_iff.mp h
          refine call_X3_106 C dX3_present_68 hi0 (c_X3_shift E hi0 hr8) (by decide) rfl ?_
          refine g_iadd C dX3_present_71 ?_
          refine g_istore C dX3_present_72 rfl ?_
          refine g_iinc (w := (1 : Int32)) C dX3_present_74 rfl (by decide) rfl ?_
          refine g_goto (tgt := 13) C dX3_present_77 (by decide) ?_
          exact g_sub (ih h) ⟨rfl, rfl, rfl, rfl, rfl, rfl, trivial⟩
set_option maxRecDepth 20000 in
set_option maxHeartbeats 2000000 in
theorem c_X3_present (E : wEnv) {i0 : Nat} {i1 : Nat} {x2 : Int32} {M : Mem} {q : (Int32 × Mem)} (hi0 : i0 < cnt 20) (hi1 : i1 < cnt 8) (h : f_X3_present i0 i1 x2 M = some q) : Mt E yX3_present cX3_present 7 (some .int) 1 [.ref (ad E 20 i0), .ref (ad E 8 i1), .int x2] M (some (.int q.1)) q.2 := by
  unfold f_X3_present at h
  refine mt_intro (own := RX3) (lv0 := [(0, .ref (ad E 20 i0)), (1, .ref (ad E 8 i1)), (2, .int x2)]) (by decide) rfl rfl rfl (fun Y C R => ?_)
  refine g_aload_n C dX3_present_0 rfl rfl ?_
  refine get_X3_88 C dX3_present_1 hi1 ?_
  refine g_iload_n C dX3_present_4 rfl rfl ?_
  obtain ⟨hb1, h⟩ := of_ite h
  refine ld_16 (j := _) C dX3_present_5 (Nat.lt_of_lt_of_le hi1 (by decide : cnt 8 ≤ cnt 16)) hb1 rfl ?_
  refine g_istore_n C dX3_present_6 rfl rfl ?_
  refine g_iconst (v := (0 : Int32)) C dX3_present_7 (by decide) ?_
  refine g_istore C dX3_present_8 rfl ?_
  refine g_iconst (v := (0 : Int32)) C dX3_present_10 (by decide) ?_
  refine g_istore C dX3_present_11 rfl ?_
  exact g_sub (b_X3_present_13 C R hi0 hi1 _ h) ⟨rfl, rfl, rfl, rfl, rfl, rfl, trivial⟩
noncomputable def f_X3_talkOn_16 (i0 : Nat) (i1 : Nat) (x2 : Int32) (x3 : Int32) : Nat → Int32 → Mem → Option Mem
  | 0, _, _ => none
  | n + 1, x4, M =>
  if x4 < x2 then
    (f_X3_talkRound i0 i1 x3 M).bind fun q1 =>
    if q1.1 = 0 then
      if x3 = 0 then
        let M2 := sR q1.2 20 i0 (upd (q1.2.1 20 i0) 4 ((q1.2.1 20 i0 4) + ((x2 - (1 : Int32)) - x4)))
        some M2
      else
        if (q1.2.1 20 i0 4) < (q1.2.1 8 i1 11) then
          f_X3_talkOn_16 i0 i1 x2 x3 n (x4 + (1 : Int32)) q1.2
        else
          let M3 := sR q1.2 20 i0 (upd (q1.2.1 20 i0) 4 ((q1.2.1 20 i0 4) + ((x2 - (1 : Int32)) - x4)))
          some M3
    else
      f_X3_talkOn_16 i0 i1 x2 x3 n (x4 + (1 : Int32)) q1.2
  else
    some M
noncomputable def f_X3_talkOn (i0 : Nat) (i1 : Nat) (x2 : Int32) (M : Mem) : Option Mem :=
  if 0 < (M.1 8 i1 11) then
    f_X3_talkOn_16 i0 i1 x2 (1 : Int32) FU (0 : Int32) M
  else
    f_X3_talkOn_16 i0 i1 x2 (0 : Int32) FU (0 : Int32) M
set_option maxRecDepth 20000 in
set_option maxHeartbeats 2000000 in
theorem b_X3_talkOn_16 {E : wEnv} {Y : YT} (C : Cx E Y cX3_talkOn 6 RX3 4) {q : Mem} (R : Rx E Y none none q) {i0 : Nat} {i1 : Nat} {x2 : Int32} {x3 : Int32} (hi0 : i0 < cnt 20) (hi1 : i1 < cnt 8) (n : Nat) : ∀ {x4 : Int32} {M : Mem} (_ : f_X3_talkOn_16 i0 i1 x2 x3 n x4 M = some q), G E Y 6 M 16 [(0, .ref (ad E 20 i0)), (1, .ref (ad E 8 i1)), (2, .int x2), (3, .int x3), (4, .int x4)] [] := by
  induction n with
  | zero =>
    intro x4 M h
    cases (show none = some q from h)
  | succ n ih =>
    intro x4 M h
    rw [f_X3_talkOn_16] at h
    refine g_iload C dX3_talkOn_16 rfl ?_
    refine g_iload_n C dX3_talkOn_18 rfl rfl ?_
    refine g_icmp_ge (tgt := 72) C dX3_talkOn_19 (by decide) h (fun h => ?_) (fun h => ?_)
    · exact g_vret C R dX3_talkOn_72 (Option.some.inj h)
    · refine g_aload_n C dX3_talkOn_22 rfl rfl ?_
      refine g_aload_n C dX3_talkOn_23 rfl rfl ?_
      refine g_iload_n C dX3_talkOn_24 rfl rfl ?_
      obtain ⟨q1, hr1, h⟩ := Option.bind_eq_some_iff.mp h
      refine call_X3_118 C dX3_talkOn_25 hi0 (c_X3_talkRound E hi0 hi1 hr1) (by decide) rfl ?_
      refine g_istore C dX3_talkOn_28 rfl ?_
      refine g_iload C dX3_talkOn_30 rfl ?_
      refine g_if_ne (tgt := 66) C dX3_talkOn_32 (by decide) h (fun h => ?_) (fun h => ?_)
      · refine g_iinc (w := (1 : Int32)) C dX3_talkOn_66 rfl (by decide) rfl ?_
        refine g_goto (tgt := 16) C dX3_talkOn_69 (by decide) ?_
        exact g_sub (ih h) ⟨rfl, rfl, rfl, rfl, rfl, trivial⟩
      · refine g_iload_n C dX3_talkOn_35 rfl rfl ?_
        refine g_if_eq (tgt := 50) C dX3_talkOn_36 (by decide) h (fun h => ?_) (fun h => ?_)
        · refine g_aload_n C dX3_talkOn_50 rfl rfl ?_
          refine g_dup C dX3_talkOn_51 rfl ?_
          refine get_X3_25 C dX3_talkOn_52 hi0 ?_
          refine g_iload_n C dX3_talkOn_55 rfl rfl ?_
          refine g_iconst (v := (1 : Int32)) C dX3_talkOn_56 (by decide) ?_
          refine g_isub C dX3_talkOn_57 ?_
          refine g_iload C dX3_talkOn_58 rfl ?_
          refine g_isub C dX3_talkOn_60 ?_
          refine g_iadd C dX3_talkOn_61 ?_
          refine put_X3_25 C dX3_talkOn_62 hi0 ?_
          exact g_vret C R dX3_talkOn_65 (Option.some.inj h)
        · refine g_aload_n C dX3_talkOn_39 rfl rfl ?_
          refine get_X3_25 C dX3_talkOn_40 hi0 ?_
          refine g_aload_n C dX3_talkOn_43 rfl rfl ?_
          refine get_X3_115 C dX3_talkOn_44 hi1 ?_
          refine g_icmp_lt (tgt := 66) C dX3_talkOn_47 (by decide) h (fun h => ?_) (fun h => ?_)
          · refine g_iinc (w := (1 : Int32)) C dX3_talkOn_66 rfl (by decide) rfl ?_
            refine g_goto (tgt := 16) C dX3_talkOn_69 (by decide) ?_
            exact g_sub (ih h) ⟨rfl, rfl, rfl, rfl, rfl, trivial⟩
          · refine g_aload_n C dX3_talkOn_50 rfl rfl ?_
            refine g_dup C dX3_talkOn_51 rfl ?_
            refine get_X3_25 C dX3_talkOn_52 hi0 ?_
            refine g_iload_n C dX3_talkOn_55 rfl rfl ?_
            refine g_iconst (v := (1 : Int32)) C dX3_talkOn_56 (by decide) ?_
            refine g_isub C dX3_talkOn_57 ?_
            refine g_iload C dX3_talkOn_58 rfl ?_
            refine g_isub C dX3_talkOn_60 ?_
            refine g_iadd C dX3_talkOn_61 ?_
            refine put_X3_25 C dX3_talkOn_62 hi0 ?_
            exact g_vret C R dX3_talkOn_65 (Option.some.inj h)
set_option maxRecDepth 20000 in
set_option maxHeartbeats 2000000 in
theorem c_X3_talkOn (E : wEnv) {i0 : Nat} {i1 : Nat} {x2 : Int32} {M : Mem} {q : Mem} (hi0 : i0 < cnt 20) (hi1 : i1 < cnt 8) (h : f_X3_talkOn i0 i1 x2 M = some q) : Mt E yX3_talkOn cX3_talkOn 6 none 4 [.ref (ad E 20 i0), .ref (ad E 8 i1), .int x2] M none q := by
  unfold f_X3_talkOn at h
  refine mt_intro (own := RX3) (lv0 := [(0, .ref (ad E 20 i0)), (1, .ref (ad E 8 i1)), (2, .int x2)]) (by decide) rfl rfl rfl (fun Y C R => ?_)
  refine g_aload_n C dX3_talkOn_0 rfl rfl ?_
  refine get_X3_115 C dX3_talkOn_1 hi1 ?_
  refine g_if_le (tgt := 11) C dX3_talkOn_4 (by decide) h (fun h => ?_) (fun h => ?_)
  · refine g_iconst (v := (0 : Int32)) C dX3_talkOn_11 (by decide) ?_
    refine g_istore_n C dX3_talkOn_12 rfl rfl ?_
    refine g_iconst (v := (0 : Int32)) C dX3_talkOn_13 (by decide) ?_
    refine g_istore C dX3_talkOn_14 rfl ?_
    exact g_sub (b_X3_talkOn_16 C R hi0 hi1 _ h) ⟨rfl, rfl, rfl, rfl, rfl, trivial⟩
  · refine g_iconst (v := (1 : Int32)) C dX3_talkOn_7 (by decide) ?_
    refine g_goto (tgt := 12) C dX3_talkOn_8 (by decide) ?_
    refine g_istore_n C dX3_talkOn_12 rfl rfl ?_
    refine g_iconst (v := (0 : Int32)) C dX3_talkOn_13 (by decide) ?_
    refine g_istore C dX3_talkOn_14 rfl ?_
    exact g_sub (b_X3_talkOn_16 C R hi0 hi1 _ h) ⟨rfl, rfl, rfl, rfl, rfl, trivial⟩
noncomputable def f_X0_extend_51 (rec : Nat → Int32 → Int32 → Int32 → Mem → Option (Int32 × Mem)) (i1 : Nat) (x2 : Int32) (x3 : Int32) (x4 : Int32) (i5 : Nat) (i6 : Nat) : Nat → Int32 → Mem → Option (Int32 × Mem)
  | 0, _, _ => none
  | n + 1, x7, M =>
  if x7 < (M.1 9 i1 1) then
    (f_X3_wasShown i5 x7 M).bind fun r4 =>
    if r4 = 0 then
      (f_X3_copyFrom i6 i5 M).bind fun M5 =>
      (f_X3_present i6 i1 x7 M5).bind fun q6 =>
      (f_X3_talkOn i6 i1 (1 : Int32) q6.2).bind fun M7 =>
      if inb x2 4 = true then
       let M9 := sR M7 40 0 (upd (M7.1 40 0) x2.toNatClampNeg x7)
       (rec i1 (x2 + (1 : Int32)) x3 x4 M9).bind fun q10 =>
       if q10.1 = 0 then
         f_X0_extend_51 rec i1 x2 x3 x4 i5 i6 n (x7 + (1 : Int32)) q10.2
       else
         some ((1 : Int32), q10.2)
      else none
    else
      f_X0_extend_51 rec i1 x2 x3 x4 i5 i6 n (x7 + (1 : Int32)) M
  else
    some ((0 : Int32), M)
noncomputable def f_X0_extend : Nat → Nat → Int32 → Int32 → Int32 → Mem → Option (Int32 × Mem)
  | 0, _, _, _, _, _ => none
  | n + 1, i1, x2, x3, x4, M =>
  if inb x2 5 = true then
   if x2 < x3 then
     if x2 < (4 : Int32) then
       if inb (x2 + (1 : Int32)) 5 = true then
        f_X0_extend_51 (f_X0_extend n) i1 x2 x3 x4 (x2.toNatClampNeg + 5) (((x2 + (1 : Int32)).toNatClampNeg) + 5) FU (0 : Int32) M
       else none
     else
       (f_X3_ruling (x2.toNatClampNeg + 5) (M.1 8 i1 12) M).bind fun r11 =>
       if r11 = x4 then
         some ((1 : Int32), M)
       else
         some ((0 : Int32), M)
   else
     (f_X3_ruling (x2.toNatClampNeg + 5) (M.1 8 i1 12) M).bind fun r2 =>
     if r2 = x4 then
       some ((1 : Int32), M)
     else
       some ((0 : Int32), M)
  else none
set_option maxRecDepth 20000 in
set_option maxHeartbeats 2000000 in
theorem b_X0_extend_51 {E : wEnv} {Y : YT} {dd dr : Nat} {rec : Nat → Int32 → Int32 → Int32 → Mem → Option (Int32 × Mem)} (C : Cx E Y cX0_extend 8 RX0 dd) (hrec : ∀ {i1 : Nat} {x2 : Int32} {x3 : Int32} {x4 : Int32} {M : Mem} {q : (Int32 × Mem)}, (i1 < cnt 8) → rec i1 x2 x3 x4 M = some q → Mt E yX0_extend cX0_extend 8 (some .boolean) dr [.ref (ad E 36 0), .ref (ad E 8 i1), .int x2, .int x3, .int x4] M (some (.int q.1)) q.2) (hdr : dr + 1 ≤ dd) (hdD : 5 ≤ dr) {q : (Int32 × Mem)} (R : Rx E Y (some .boolean) (some (.int q.1)) q.2) {i1 : Nat} {x2 : Int32} {x3 : Int32} {x4 : Int32} {i5 : Nat} {i6 : Nat} (hi1 : i1 < cnt 8) (hi5 : i5 < cnt 20) (hi6 : i6 < cnt 20) (n : Nat) : ∀ {x7 : Int32} {M : Mem} (_ : f_X0_extend_51 rec i1 x2 x3 x4 i5 i6 n x7 M = some q), G E Y 8 M 51 [(0, .ref (ad E 36 0)), (1, .ref (ad E 8 i1)), (2, .int x2), (3, .int x3), (4, .int x4), (5, .ref (ad E 20 i5)), (6, .ref (ad E 20 i6)), (7, .int x7)] [] := by
  induction n with
  | zero =>
    intro x7 M h
    cases (show none = some q from h)
  | succ n ih =>
    intro x7 M h
    rw [f_X0_extend_51] at h
    refine g_iload C dX0_extend_51 rfl ?_
    refine g_aload_n C dX0_extend_53 rfl rfl ?_
    refine get_X0_89 C dX0_extend_54 hi1 ?_
    refine g_iconst (v := (1 : Int32)) C dX0_extend_57 (by decide) ?_
    refine ld_9 (j := 1) C dX0_extend_58 (Nat.lt_of_lt_of_le hi1 (by decide : cnt 8 ≤ cnt 9)) (by decide) rfl ?_
    refine g_icmp_ge (tgt := 125) C dX0_extend_59 (by decide) h (fun h => ?_) (fun h => ?_)
    · refine g_iconst (v := (0 : Int32)) C dX0_extend_125 (by decide) ?_
      exact g_zret C R dX0_extend_126 (fst_of h) (Or.inl rfl) (snd_of h)
    · refine g_aload C dX0_extend_62 rfl ?_
      refine g_iload C dX0_extend_64 rfl ?_
      obtain ⟨r4, hr4, h⟩ := Option.bind_eq_some_iff.mp h
      refine call_X0_92 C dX0_extend_66 hi5 (c_X3_wasShown E hi5 hr4) (by omega) rfl ?_
      refine g_if_ne (tgt := 119) C dX0_extend_69 (by decide) h (fun h => ?_) (fun h => ?_)
      · refine g_iinc (w := (1 : Int32)) C dX0_extend_119 rfl (by decide) rfl ?_
        refine g_goto (tgt := 51) C dX0_extend_122 (by decide) ?_
        exact g_sub (ih h) ⟨rfl, rfl, rfl, rfl, rfl, rfl, rfl, rfl, trivial⟩
      · refine g_aload C dX0_extend_72 rfl ?_
        refine g_aload C dX0_extend_74 rfl ?_
        obtain ⟨M5, hr5, h⟩ := Option.bind_eq_some_iff.mp h
        refine call_X0_66 C dX0_extend_76 hi6 (c_X3_copyFrom E hi6 hi5 hr5) (by omega) rfl ?_
        refine g_aload C dX0_extend_79 rfl ?_
        refine g_aload_n C dX0_extend_81 rfl rfl ?_
        refine g_iload C dX0_extend_82 rfl ?_
        obtain ⟨q6, hr6, h⟩ := Option.bind_eq_some_iff.mp h
        refine call_X0_96 C dX0_extend_84 hi6 (c_X3_present E hi6 hi1 hr6) (by omega) rfl ?_
        refine g_pop C dX0_extend_87 rfl ?_
        refine g_aload C dX0_extend_88 rfl ?_
        refine g_aload_n C dX0_extend_90 rfl rfl ?_
        refine g_iconst (v := (1 : Int32)) C dX0_extend_91 (by decide) ?_
        obtain ⟨M7, hr7, h⟩ := Option.bind_eq_some_iff.mp h
        refine call_X0_100 C dX0_extend_92 hi6 (c_X3_talkOn E hi6 hi1 hr7) (by omega) rfl ?_
        refine g_aload_n C dX0_extend_95 rfl rfl ?_
        refine get_X0_24 C dX0_extend_96 (by decide) ?_
        refine g_iload_n C dX0_extend_99 rfl rfl ?_
        refine g_iload C dX0_extend_100 rfl ?_
        obtain ⟨hb8, h⟩ := of_ite h
        refine st_40 (j := _) C dX0_extend_102 (by decide) hb8 rfl ?_
        refine g_aload_n C dX0_extend_103 rfl rfl ?_
        refine g_aload_n C dX0_extend_104 rfl rfl ?_
        refine g_iload_n C dX0_extend_105 rfl rfl ?_
        refine g_iconst (v := (1 : Int32)) C dX0_extend_106 (by decide) ?_
        refine g_iadd C dX0_extend_107 ?_
        refine g_iload_n C dX0_extend_108 rfl rfl ?_
        refine g_iload C dX0_extend_109 rfl ?_
        obtain ⟨q10, hr10, h⟩ := Option.bind_eq_some_iff.mp h
        refine call_X0_70 C dX0_extend_111 (hrec hi1 hr10) (by omega) rfl ?_
        refine g_if_eq (tgt := 119) C dX0_extend_114 (by decide) h (fun h => ?_) (fun h => ?_)
        · refine g_iinc (w := (1 : Int32)) C dX0_extend_119 rfl (by decide) rfl ?_
          refine g_goto (tgt := 51) C dX0_extend_122 (by decide) ?_
          exact g_sub (ih h) ⟨rfl, rfl, rfl, rfl, rfl, rfl, rfl, rfl, trivial⟩
        · refine g_iconst (v := (1 : Int32)) C dX0_extend_117 (by decide) ?_
          exact g_zret C R dX0_extend_118 (fst_of h) (Or.inr rfl) (snd_of h)
set_option maxRecDepth 20000 in
set_option maxHeartbeats 2000000 in
theorem c_X0_extend (E : wEnv) (n : Nat) : ∀ {i1 : Nat} {x2 : Int32} {x3 : Int32} {x4 : Int32} {M : Mem} {q : (Int32 × Mem)} (hi1 : i1 < cnt 8) (_ : f_X0_extend n i1 x2 x3 x4 M = some q), Mt E yX0_extend cX0_extend 8 (some .boolean) (5 + 1 * n) [.ref (ad E 36 0), .ref (ad E 8 i1), .int x2, .int x3, .int x4] M (some (.int q.1)) q.2 := by
  induction n with
  | zero =>
    intro i1 x2 x3 x4 M q hi1 h
    cases (show none = some q from h)
  | succ n ih =>
    intro i1 x2 x3 x4 M q hi1 h
    rw [f_X0_extend] at h
    refine mt_intro (own := RX0) (lv0 := [(0, .ref (ad E 36 0)), (1, .ref (ad E 8 i1)), (2, .int x2), (3, .int x3), (4, .int x4)]) (by decide) rfl rfl rfl (fun Y C R => ?_)
    refine g_aload_n C dX0_extend_0 rfl rfl ?_
    refine get_X0_20 C dX0_extend_1 (by decide) ?_
    refine g_iload_n C dX0_extend_4 rfl rfl ?_
    obtain ⟨hb1, h⟩ := of_ite h
    refine ld_39 (j := _) C dX0_extend_5 (by decide) hb1 rfl ?_
    refine g_astore C dX0_extend_6 rfl ?_
    refine g_iload_n C dX0_extend_8 rfl rfl ?_
    refine g_iload_n C dX0_extend_9 rfl rfl ?_
    refine g_icmp_ge (tgt := 18) C dX0_extend_10 (by decide) h (fun h => ?_) (fun h => ?_)
    · refine g_aload C dX0_extend_18 rfl ?_
      refine g_aload_n C dX0_extend_20 rfl rfl ?_
      refine get_X0_80 C dX0_extend_21 hi1 ?_
      obtain ⟨r2, hr2, h⟩ := Option.bind_eq_some_iff.mp h
      refine call_X0_85 C dX0_extend_24 (inb_add hb1 (by decide)) (c_X3_ruling E (inb_add hb1 (by decide)) hr2) (by omega) rfl ?_
      refine g_iload C dX0_extend_27 rfl ?_
      refine g_icmp_ne (tgt := 36) C dX0_extend_29 (by decide) h (fun h => ?_) (fun h => ?_)
      · refine g_iconst (v := (0 : Int32)) C dX0_extend_36 (by decide) ?_
        exact g_zret C R dX0_extend_37 (fst_of h) (Or.inl rfl) (snd_of h)
      · refine g_iconst (v := (1 : Int32)) C dX0_extend_32 (by decide) ?_
        refine g_goto (tgt := 37) C dX0_extend_33 (by decide) ?_
        exact g_zret C R dX0_extend_37 (fst_of h) (Or.inr rfl) (snd_of h)
    · refine g_iload_n C dX0_extend_13 rfl rfl ?_
      refine g_iconst (v := (4 : Int32)) C dX0_extend_14 (by decide) ?_
      refine g_icmp_lt (tgt := 38) C dX0_extend_15 (by decide) h (fun h => ?_) (fun h => ?_)
      · refine g_aload_n C dX0_extend_38 rfl rfl ?_
        refine get_X0_20 C dX0_extend_39 (by decide) ?_
        refine g_iload_n C dX0_extend_42 rfl rfl ?_
        refine g_iconst (v := (1 : Int32)) C dX0_extend_43 (by decide) ?_
        refine g_iadd C dX0_extend_44 ?_
        obtain ⟨hb3, h⟩ := of_ite h
        refine ld_39 (j := _) C dX0_extend_45 (by decide) hb3 rfl ?_
        refine g_astore C dX0_extend_46 rfl ?_
        refine g_iconst (v := (0 : Int32)) C dX0_extend_48 (by decide) ?_
        refine g_istore C dX0_extend_49 rfl ?_
        exact g_sub (b_X0_extend_51 (dr := 5 + 1 * n) C ih (by omega) (by omega) R hi1 (inb_add hb1 (by decide)) (inb_add hb3 (by decide)) _ h) ⟨rfl, rfl, rfl, rfl, rfl, rfl, rfl, rfl, trivial⟩
      · refine g_aload C dX0_extend_18 rfl ?_
        refine g_aload_n C dX0_extend_20 rfl rfl ?_
        refine get_X0_80 C dX0_extend_21 hi1 ?_
        obtain ⟨r11, hr11, h⟩ := Option.bind_eq_some_iff.mp h
        refine call_X0_85 C dX0_extend_24 (inb_add hb1 (by decide)) (c_X3_ruling E (inb_add hb1 (by decide)) hr11) (by omega) rfl ?_
        refine g_iload C dX0_extend_27 rfl ?_
        refine g_icmp_ne (tgt := 36) C dX0_extend_29 (by decide) h (fun h => ?_) (fun h => ?_)
        · refine g_iconst (v := (0 : Int32)) C dX0_extend_36 (by decide) ?_
          exact g_zret C R dX0_extend_37 (fst_of h) (Or.inl rfl) (snd_of h)
        · refine g_iconst (v := (1 : Int32)) C dX0_extend_32 (by decide) ?_
          refine g_goto (tgt := 37) C dX0_extend_33 (by decide) ?_
          exact g_zret C R dX0_extend_37 (fst_of h) (Or.inr rfl) (snd_of h)
noncomputable def f_X0_findOrder_13 (i1 : Nat) (x3 : Int32) : Nat → Int32 → Mem → Option (Int32 × Mem)
  | 0, _, _ => none
  | n + 1, x4, M =>
  if (4 : Int32) < x4 then
    some ((0 : Int32), M)
  else
    (f_X0_extend 40 i1 (0 : Int32) x4 x3 M).bind fun q2 =>
    if q2.1 = 0 then
      f_X0_findOrder_13 i1 x3 n (x4 + (1 : Int32)) q2.2
    else
      if cpok (0 : Int32) (0 : Int32) x4 4 4 = true then
       let M4 := sR q2.2 42 0 (va_cpy (q2.2.1 40 0) (q2.2.1 42 0) 0 0 x4.toNatClampNeg)
       let M5 := sR M4 36 0 (upd (M4.1 36 0) 7 x4)
       some ((1 : Int32), M5)
      else none
noncomputable def f_X0_findOrder (i1 : Nat) (i2 : Nat) (x3 : Int32) (M : Mem) : Option (Int32 × Mem) :=
  (f_X3_copyFrom (0 + 5) i2 M).bind fun M1 =>
  f_X0_findOrder_13 i1 x3 FU (0 : Int32) M1
set_option maxRecDepth 20000 in
set_option maxHeartbeats 2000000 in
theorem b_X0_findOrder_13 {E : wEnv} {Y : YT} (C : Cx E Y cX0_findOrder 5 RX0 46) {q : (Int32 × Mem)} (R : Rx E Y (some .boolean) (some (.int q.1)) q.2) {i1 : Nat} {x3 : Int32} (hi1 : i1 < cnt 8) (n : Nat) : ∀ {x4 : Int32} {M : Mem} (_ : f_X0_findOrder_13 i1 x3 n x4 M = some q), G E Y 5 M 13 [(0, .ref (ad E 36 0)), (1, .ref (ad E 8 i1)), (3, .int x3), (4, .int x4)] [] := by
  induction n with
  | zero =>
    intro x4 M h
    cases (show none = some q from h)
  | succ n ih =>
    intro x4 M h
    rw [f_X0_findOrder_13] at h
    refine g_iload C dX0_findOrder_13 rfl ?_
    refine g_iconst (v := (4 : Int32)) C dX0_findOrder_15 (by decide) ?_
    refine g_icmp_gt (tgt := 60) C dX0_findOrder_16 (by decide) h (fun h => ?_) (fun h => ?_)
    · refine g_iconst (v := (0 : Int32)) C dX0_findOrder_60 (by decide) ?_
      exact g_zret C R dX0_findOrder_61 (fst_of h) (Or.inl rfl) (snd_of h)
    · refine g_aload_n C dX0_findOrder_19 rfl rfl ?_
      refine g_aload_n C dX0_findOrder_20 rfl rfl ?_
      refine g_iconst (v := (0 : Int32)) C dX0_findOrder_21 (by decide) ?_
      refine g_iload C dX0_findOrder_22 rfl ?_
      refine g_iload_n C dX0_findOrder_24 rfl rfl ?_
      obtain ⟨q2, hr2, h⟩ := Option.bind_eq_some_iff.mp h
      refine call_X0_70 C dX0_findOrder_25 (c_X0_extend E 40 hi1 hr2) (by decide) rfl ?_
      refine g_if_eq (tgt := 54) C dX0_findOrder_28 (by decide) h (fun h => ?_) (fun h => ?_)
      · refine g_iinc (w := (1 : Int32)) C dX0_findOrder_54 rfl (by decide) rfl ?_
        refine g_goto (tgt := 13) C dX0_findOrder_57 (by decide) ?_
        exact g_sub (ih h) ⟨rfl, rfl, rfl, rfl, trivial⟩
      · refine g_aload_n C dX0_findOrder_31 rfl rfl ?_
        refine get_X0_24 C dX0_findOrder_32 (by decide) ?_
        refine g_iconst (v := (0 : Int32)) C dX0_findOrder_35 (by decide) ?_
        refine g_aload_n C dX0_findOrder_36 rfl rfl ?_
        refine get_X0_31 C dX0_findOrder_37 (by decide) ?_
        refine g_iconst (v := (0 : Int32)) C dX0_findOrder_40 (by decide) ?_
        refine g_iload C dX0_findOrder_41 rfl ?_
        obtain ⟨hb3, h⟩ := of_ite h
        refine cp_X0_74_40_42 (js := 0) (jd := 0) (jn := _) C dX0_findOrder_43 (by decide) (by decide) hb3 rfl rfl rfl (by decide) rfl ?_
        refine g_aload_n C dX0_findOrder_46 rfl rfl ?_
        refine g_iload C dX0_findOrder_47 rfl ?_
        refine put_X0_37 C dX0_findOrder_49 (by decide) ?_
        refine g_iconst (v := (1 : Int32)) C dX0_findOrder_52 (by decide) ?_
        exact g_zret C R dX0_findOrder_53 (fst_of h) (Or.inr rfl) (snd_of h)
set_option maxRecDepth 20000 in
set_option maxHeartbeats 2000000 in
theorem c_X0_findOrder (E : wEnv) {i1 : Nat} {i2 : Nat} {x3 : Int32} {M : Mem} {q : (Int32 × Mem)} (hi1 : i1 < cnt 8) (hi2 : i2 < cnt 20) (h : f_X0_findOrder i1 i2 x3 M = some q) : Mt E yX0_findOrder cX0_findOrder 5 (some .boolean) 46 [.ref (ad E 36 0), .ref (ad E 8 i1), .ref (ad E 20 i2), .int x3] M (some (.int q.1)) q.2 := by
  unfold f_X0_findOrder at h
  refine mt_intro (own := RX0) (lv0 := [(0, .ref (ad E 36 0)), (1, .ref (ad E 8 i1)), (2, .ref (ad E 20 i2)), (3, .int x3)]) (by decide) rfl rfl rfl (fun Y C R => ?_)
  refine g_aload_n C dX0_findOrder_0 rfl rfl ?_
  refine get_X0_20 C dX0_findOrder_1 (by decide) ?_
  refine g_iconst (v := (0 : Int32)) C dX0_findOrder_4 (by decide) ?_
  refine ld_39 (j := 0) C dX0_findOrder_5 (by decide) (by decide) rfl ?_
  refine g_aload_n C dX0_findOrder_6 rfl rfl ?_
  obtain ⟨M1, hr1, h⟩ := Option.bind_eq_some_iff.mp h
  refine call_X0_66 C dX0_findOrder_7 (by decide) (c_X3_copyFrom E (by decide) hi2 hr1) (by decide) rfl ?_
  refine g_iconst (v := (0 : Int32)) C dX0_findOrder_10 (by decide) ?_
  refine g_istore C dX0_findOrder_11 rfl ?_
  exact g_sub (b_X0_findOrder_13 C R hi1 _ h) ⟨rfl, rfl, rfl, rfl, trivial⟩
noncomputable def f_X1_growthOf (i0 : Nat) (x1 : Int32) (x2 : Int32) (M : Mem) : Option Int32 :=
  if inb ((x1 * (6 : Int32)) + x2) 24 = true then
   some (M.1 19 i0 (((x1 * (6 : Int32)) + x2).toNatClampNeg))
  else none
set_option maxRecDepth 20000 in
set_option maxHeartbeats 2000000 in
theorem c_X1_growthOf (E : wEnv) {i0 : Nat} {x1 : Int32} {x2 : Int32} {M : Mem} {q : Int32} (hi0 : i0 < cnt 8) (h : f_X1_growthOf i0 x1 x2 M = some q) : Mt E yX1_growthOf cX1_growthOf 3 (some .int) 0 [.ref (ad E 8 i0), .int x1, .int x2] M (some (.int q)) M := by
  unfold f_X1_growthOf at h
  refine mt_intro (own := RX1) (lv0 := [(0, .ref (ad E 8 i0)), (1, .int x1), (2, .int x2)]) (by decide) rfl rfl rfl (fun Y C R => ?_)
  refine g_aload_n C dX1_growthOf_0 rfl rfl ?_
  refine get_X1_43 C dX1_growthOf_1 hi0 ?_
  refine g_iload_n C dX1_growthOf_4 rfl rfl ?_
  refine g_bipush (v := (6 : Int32)) C dX1_growthOf_5 (by decide) ?_
  refine g_imul C dX1_growthOf_7 ?_
  refine g_iload_n C dX1_growthOf_8 rfl rfl ?_
  refine g_iadd C dX1_growthOf_9 ?_
  obtain ⟨hb1, h⟩ := of_ite h
  refine ld_19 (j := _) C dX1_growthOf_10 (Nat.lt_of_lt_of_le hi0 (by decide : cnt 8 ≤ cnt 19)) hb1 rfl ?_
  exact g_iret C R dX1_growthOf_11 (Option.some.inj h) rfl
noncomputable def f_X0_reap_51 (k124 : Mem → Option Mem) (i1 : Nat) (x2 : Int32) (x3 : Int32) (x4 : Int32) : Nat → Int32 → Mem → Option Mem
  | 0, _, _ => none
  | n + 1, x5, M =>
  if x5 < (M.1 9 i1 2) then
    if inb x5 6 = true then
     if inb (M.1 17 i1 x5.toNatClampNeg) 6 = true then
      if inb x5 6 = true then
       if inb (M.1 18 i1 x5.toNatClampNeg) 6 = true then
        let x6_6 := (jmax (M.1 41 0 ((M.1 17 i1 x5.toNatClampNeg).toNatClampNeg)) (M.1 41 0 ((M.1 18 i1 x5.toNatClampNeg).toNatClampNeg)))
        (f_X1_growthOf i1 x2 x5 M).bind fun r7 =>
        if inb x5 6 = true then
         if inb x5 6 = true then
          let M10 := sR M 43 0 (upd (M.1 43 0) x5.toNatClampNeg (r7 + (jmax (M.1 41 0 x5.toNatClampNeg) x6_6)))
          f_X0_reap_51 k124 i1 x2 x3 x4 n (x5 + (1 : Int32)) M10
         else none
        else none
       else none
      else none
     else none
    else none
  else
    k124 M
noncomputable def f_X0_reap_27 (i1 : Nat) (x2 : Int32) (x3 : Int32) : Nat → Int32 → Mem → Option Mem
  | 0, _, _ => none
  | n + 1, x4, M =>
  if x4 < x3 then
    let M1 := sR M 41 0 (va_cpy (M.1 43 0) (M.1 41 0) 0 0 6)
    f_X0_reap_51 (fun M_11 =>
        f_X0_reap_27 i1 x2 x3 n (x4 + (1 : Int32)) M_11) i1 x2 x3 x4 FU (0 : Int32) M1
  else
    some M
noncomputable def f_X0_reap_3 (i1 : Nat) (x2 : Int32) (x3 : Int32) : Nat → Int32 → Mem → Option Mem
  | 0, _, _ => none
  | n + 1, x4, M =>
  if x4 < (6 : Int32) then
    if inb x4 6 = true then
     let M13 := sR M 43 0 (upd (M.1 43 0) x4.toNatClampNeg (0 : Int32))
     f_X0_reap_3 i1 x2 x3 n (x4 + (1 : Int32)) M13
    else none
  else
    f_X0_reap_27 i1 x2 x3 FU (0 : Int32) M
noncomputable def f_X0_reap (i1 : Nat) (x2 : Int32) (x3 : Int32) (M : Mem) : Option Mem :=
  f_X0_reap_3 i1 x2 x3 FU (0 : Int32) M
set_option maxRecDepth 20000 in
set_option maxHeartbeats 2000000 in
theorem b_X0_reap_51 {E : wEnv} {Y : YT} (C : Cx E Y cX0_reap 7 RX0 1) {q : Mem} (R : Rx E Y none none q) {i1 : Nat} {x2 : Int32} {x3 : Int32} {x4 : Int32} (hi1 : i1 < cnt 8) {k124 : Mem → Option Mem} (hk124 : ∀ {M : Mem} , k124 M = some q → G E Y 7 M 124 [(0, .ref (ad E 36 0)), (1, .ref (ad E 8 i1)), (2, .int x2), (3, .int x3), (4, .int x4)] []) (n : Nat) : ∀ {x5 : Int32} {M : Mem} (_ : f_X0_reap_51 k124 i1 x2 x3 x4 n x5 M = some q), G E Y 7 M 51 [(0, .ref (ad E 36 0)), (1, .ref (ad E 8 i1)), (2, .int x2), (3, .int x3), (4, .int x4), (5, .int x5)] [] := by
  induction n with
  | zero =>
    intro x5 M h
    cases (show none = some q from h)
  | succ n ih =>
    intro x5 M h
    rw [f_X0_reap_51] at h
    refine g_iload C dX0_reap_51 rfl ?_
    refine g_aload_n C dX0_reap_53 rfl rfl ?_
    refine get_X0_89 C dX0_reap_54 hi1 ?_
    refine g_iconst (v := (2 : Int32)) C dX0_reap_57 (by decide) ?_
    refine ld_9 (j := 2) C dX0_reap_58 (Nat.lt_of_lt_of_le hi1 (by decide : cnt 8 ≤ cnt 9)) (by decide) rfl ?_
    refine g_icmp_ge (tgt := 124) C dX0_reap_59 (by decide) h (fun h => ?_) (fun h => ?_)
    · exact g_sub (hk124 h) ⟨rfl, rfl, rfl, rfl, rfl, trivial⟩
    · refine g_aload_n C dX0_reap_62 rfl rfl ?_
      refine get_X0_28 C dX0_reap_63 (by decide) ?_
      refine g_aload_n C dX0_reap_66 rfl rfl ?_
      refine get_X0_104 C dX0_reap_67 hi1 ?_
      refine g_iload C dX0_reap_70 rfl ?_
      obtain ⟨hb2, h⟩ := of_ite h
      refine ld_17 (j := _) C dX0_reap_72 (Nat.lt_of_lt_of_le hi1 (by decide : cnt 8 ≤ cnt 17)) hb2 rfl ?_
      obtain ⟨hb3, h⟩ := of_ite h
      refine ld_41 (j := _) C dX0_reap_73 (by decide) hb3 rfl ?_
      refine g_aload_n C dX0_reap_74 rfl rfl ?_
      refine get_X0_28 C dX0_reap_75 (by decide) ?_
      refine g_aload_n C dX0_reap_78 rfl rfl ?_
      refine get_X0_107 C dX0_reap_79 hi1 ?_
      refine g_iload C dX0_reap_82 rfl ?_
      obtain ⟨hb4, h⟩ := of_ite h
      refine ld_18 (j := _) C dX0_reap_84 (Nat.lt_of_lt_of_le hi1 (by decide : cnt 8 ≤ cnt 18)) hb4 rfl ?_
      obtain ⟨hb5, h⟩ := of_ite h
      refine ld_41 (j := _) C dX0_reap_85 (by decide) hb5 rfl ?_
      refine call_X0_110 C dX0_reap_86 (by decide) rfl ?_
      refine g_istore C dX0_reap_89 rfl ?_
      refine g_aload_n C dX0_reap_91 rfl rfl ?_
      refine get_X0_34 C dX0_reap_92 (by decide) ?_
      refine g_iload C dX0_reap_95 rfl ?_
      refine g_aload_n C dX0_reap_97 rfl rfl ?_
      refine g_iload_n C dX0_reap_98 rfl rfl ?_
      refine g_iload C dX0_reap_99 rfl ?_
      obtain ⟨r7, hr7, h⟩ := Option.bind_eq_some_iff.mp h
      refine call_X0_116 C dX0_reap_101 hi1 (c_X1_growthOf E hi1 hr7) (by decide) rfl ?_
      refine g_aload_n C dX0_reap_104 rfl rfl ?_
      refine get_X0_28 C dX0_reap_105 (by decide) ?_
      refine g_iload C dX0_reap_108 rfl ?_
      obtain ⟨hb8, h⟩ := of_ite h
      refine ld_41 (j := _) C dX0_reap_110 (by decide) hb8 rfl ?_
      refine g_iload C dX0_reap_111 rfl ?_
      refine call_X0_110 C dX0_reap_113 (by decide) rfl ?_
      refine g_iadd C dX0_reap_116 ?_
      obtain ⟨hb9, h⟩ := of_ite h
      refine st_43 (j := _) C dX0_reap_117 (by decide) hb9 rfl ?_
      refine g_iinc (w := (1 : Int32)) C dX0_reap_118 rfl (by decide) rfl ?_
      refine g_goto (tgt := 51) C dX0_reap_121 (by decide) ?_
      exact g_sub (ih h) ⟨rfl, rfl, rfl, rfl, rfl, rfl, trivial⟩
set_option maxRecDepth 20000 in
set_option maxHeartbeats 2000000 in
theorem b_X0_reap_27 {E : wEnv} {Y : YT} (C : Cx E Y cX0_reap 7 RX0 1) {q : Mem} (R : Rx E Y none none q) {i1 : Nat} {x2 : Int32} {x3 : Int32} (hi1 : i1 < cnt 8) (n : Nat) : ∀ {x4 : Int32} {M : Mem} (_ : f_X0_reap_27 i1 x2 x3 n x4 M = some q), G E Y 7 M 27 [(0, .ref (ad E 36 0)), (1, .ref (ad E 8 i1)), (2, .int x2), (3, .int x3), (4, .int x4)] [] := by
  induction n with
  | zero =>
    intro x4 M h
    cases (show none = some q from h)
  | succ n ih =>
    intro x4 M h
    rw [f_X0_reap_27] at h
    refine g_iload C dX0_reap_27 rfl ?_
    refine g_iload_n C dX0_reap_29 rfl rfl ?_
    refine g_icmp_ge (tgt := 130) C dX0_reap_30 (by decide) h (fun h => ?_) (fun h => ?_)
    · exact g_vret C R dX0_reap_130 (Option.some.inj h)
    · refine g_aload_n C dX0_reap_33 rfl rfl ?_
      refine get_X0_34 C dX0_reap_34 (by decide) ?_
      refine g_iconst (v := (0 : Int32)) C dX0_reap_37 (by decide) ?_
      refine g_aload_n C dX0_reap_38 rfl rfl ?_
      refine get_X0_28 C dX0_reap_39 (by decide) ?_
      refine g_iconst (v := (0 : Int32)) C dX0_reap_42 (by decide) ?_
      refine g_bipush (v := (6 : Int32)) C dX0_reap_43 (by decide) ?_
      refine cp_X0_74_43_41 (js := 0) (jd := 0) (jn := 6) C dX0_reap_45 (by decide) (by decide) (by decide) rfl rfl rfl (by decide) rfl ?_
      refine g_iconst (v := (0 : Int32)) C dX0_reap_48 (by decide) ?_
      refine g_istore C dX0_reap_49 rfl ?_
      refine g_sub (b_X0_reap_51 C R hi1 ?_ _ h) ⟨rfl, rfl, rfl, rfl, rfl, rfl, trivial⟩
      · clear h
        intro M_11 h
        refine g_iinc (w := (1 : Int32)) C dX0_reap_124 rfl (by decide) rfl ?_
        refine g_goto (tgt := 27) C dX0_reap_127 (by decide) ?_
        exact g_sub (ih h) ⟨rfl, rfl, rfl, rfl, rfl, trivial⟩
set_option maxRecDepth 20000 in
set_option maxHeartbeats 2000000 in
theorem b_X0_reap_3 {E : wEnv} {Y : YT} (C : Cx E Y cX0_reap 7 RX0 1) {q : Mem} (R : Rx E Y none none q) {i1 : Nat} {x2 : Int32} {x3 : Int32} (hi1 : i1 < cnt 8) (n : Nat) : ∀ {x4 : Int32} {M : Mem} (_ : f_X0_reap_3 i1 x2 x3 n x4 M = some q), G E Y 7 M 3 [(0, .ref (ad E 36 0)), (1, .ref (ad E 8 i1)), (2, .int x2), (3, .int x3), (4, .int x4)] [] := by
  induction n with
  | zero =>
    intro x4 M h
    cases (show none = some q from h)
  | succ n ih =>
    intro x4 M h
    rw [f_X0_reap_3] at h
    refine g_iload C dX0_reap_3 rfl ?_
    refine g_bipush (v := (6 : Int32)) C dX0_reap_5 (by decide) ?_
    refine g_icmp_ge (tgt := 24) C dX0_reap_7 (by decide) h (fun h => ?_) (fun h => ?_)
    · refine g_iconst (v := (0 : Int32)) C dX0_reap_24 (by decide) ?_
      refine g_istore C dX0_reap_25 rfl ?_
      exact g_sub (b_X0_reap_27 C R hi1 _ h) ⟨rfl, rfl, rfl, rfl, rfl, trivial⟩
    · refine g_aload_n C dX0_reap_10 rfl rfl ?_
      refine get_X0_34 C dX0_reap_11 (by decide) ?_
      refine g_iload C dX0_reap_14 rfl ?_
      refine g_iconst (v := (0 : Int32)) C dX0_reap_16 (by decide) ?_
      obtain ⟨hb12, h⟩ := of_ite h
      refine st_43 (j := _) C dX0_reap_17 (by decide) hb12 rfl ?_
      refine g_iinc (w := (1 : Int32)) C dX0_reap_18 rfl (by decide) rfl ?_
      refine g_goto (tgt := 3) C dX0_reap_21 (by decide) ?_
      exact g_sub (ih h) ⟨rfl, rfl, rfl, rfl, rfl, trivial⟩
set_option maxRecDepth 20000 in
set_option maxHeartbeats 2000000 in
theorem c_X0_reap (E : wEnv) {i1 : Nat} {x2 : Int32} {x3 : Int32} {M : Mem} {q : Mem} (hi1 : i1 < cnt 8) (h : f_X0_reap i1 x2 x3 M = some q) : Mt E yX0_reap cX0_reap 7 none 1 [.ref (ad E 36 0), .ref (ad E 8 i1), .int x2, .int x3] M none q := by
  unfold f_X0_reap at h
  refine mt_intro (own := RX0) (lv0 := [(0, .ref (ad E 36 0)), (1, .ref (ad E 8 i1)), (2, .int x2), (3, .int x3)]) (by decide) rfl rfl rfl (fun Y C R => ?_)
  refine g_iconst (v := (0 : Int32)) C dX0_reap_0 (by decide) ?_
  refine g_istore C dX0_reap_1 rfl ?_
  exact g_sub (b_X0_reap_3 C R hi1 _ h) ⟨rfl, rfl, rfl, rfl, rfl, trivial⟩
noncomputable def f_X1_weatherBehind (i0 : Nat) (x1 : Int32) (x2 : Int32) (M : Mem) : Option Int32 :=
  if x2 = 0 then
    some x1
  else
    if x2 = (1 : Int32) then
      if inb x1 6 = true then
       some (M.1 17 i0 x1.toNatClampNeg)
      else none
    else
      if inb x1 6 = true then
       some (M.1 18 i0 x1.toNatClampNeg)
      else none
set_option maxRecDepth 20000 in
set_option maxHeartbeats 2000000 in
theorem c_X1_weatherBehind (E : wEnv) {i0 : Nat} {x1 : Int32} {x2 : Int32} {M : Mem} {q : Int32} (hi0 : i0 < cnt 8) (h : f_X1_weatherBehind i0 x1 x2 M = some q) : Mt E yX1_weatherBehind cX1_weatherBehind 3 (some .int) 0 [.ref (ad E 8 i0), .int x1, .int x2] M (some (.int q)) M := by
  unfold f_X1_weatherBehind at h
  refine mt_intro (own := RX1) (lv0 := [(0, .ref (ad E 8 i0)), (1, .int x1), (2, .int x2)]) (by decide) rfl rfl rfl (fun Y C R => ?_)
  refine g_iload_n C dX1_weatherBehind_0 rfl rfl ?_
  refine g_if_ne (tgt := 6) C dX1_weatherBehind_1 (by decide) h (fun h => ?_) (fun h => ?_)
  · refine g_iload_n C dX1_weatherBehind_6 rfl rfl ?_
    refine g_iconst (v := (1 : Int32)) C dX1_weatherBehind_7 (by decide) ?_
    refine g_icmp_ne (tgt := 20) C dX1_weatherBehind_8 (by decide) h (fun h => ?_) (fun h => ?_)
    · refine g_aload_n C dX1_weatherBehind_20 rfl rfl ?_
      refine get_X1_40 C dX1_weatherBehind_21 hi0 ?_
      refine g_iload_n C dX1_weatherBehind_24 rfl rfl ?_
      obtain ⟨hb1, h⟩ := of_ite h
      refine ld_18 (j := _) C dX1_weatherBehind_25 (Nat.lt_of_lt_of_le hi0 (by decide : cnt 8 ≤ cnt 18)) hb1 rfl ?_
      exact g_iret C R dX1_weatherBehind_26 (Option.some.inj h) rfl
    · refine g_aload_n C dX1_weatherBehind_11 rfl rfl ?_
      refine get_X1_37 C dX1_weatherBehind_12 hi0 ?_
      refine g_iload_n C dX1_weatherBehind_15 rfl rfl ?_
      obtain ⟨hb2, h⟩ := of_ite h
      refine ld_17 (j := _) C dX1_weatherBehind_16 (Nat.lt_of_lt_of_le hi0 (by decide : cnt 8 ≤ cnt 17)) hb2 rfl ?_
      refine g_goto (tgt := 26) C dX1_weatherBehind_17 (by decide) ?_
      exact g_iret C R dX1_weatherBehind_26 (Option.some.inj h) rfl
  · refine g_iload_n C dX1_weatherBehind_4 rfl rfl ?_
    exact g_iret C R dX1_weatherBehind_5 (Option.some.inj h) rfl
noncomputable def f_X0_bestVerdict_5 (i1 : Nat) (x2 : Int32) (M : Mem) : Nat → Int32 → Int32 → Option Int32
  | 0, _, _ => none
  | n + 1, x3, x4 =>
  if x4 < (-1 : Int32) then
    some x3
  else
    (f_X1_weatherBehind i1 x2 x4 M).bind fun r1 =>
    if inb r1 6 = true then
     (f_X1_weatherBehind i1 x2 x3 M).bind fun r3 =>
     if inb r3 6 = true then
      if (M.1 43 0 r3.toNatClampNeg) < (M.1 43 0 r1.toNatClampNeg) then
        f_X0_bestVerdict_5 i1 x2 M n x4 (x4 + (-1 : Int32))
      else
        f_X0_bestVerdict_5 i1 x2 M n x3 (x4 + (-1 : Int32))
     else none
    else none
noncomputable def f_X0_bestVerdict (i1 : Nat) (x2 : Int32) (M : Mem) : Option Int32 :=
  f_X0_bestVerdict_5 i1 x2 M FU (1 : Int32) (0 : Int32)
set_option maxRecDepth 20000 in
set_option maxHeartbeats 2000000 in
theorem b_X0_bestVerdict_5 {E : wEnv} {Y : YT} (C : Cx E Y cX0_bestVerdict 6 RX0 1) {q : Int32} {M : Mem} (R : Rx E Y (some .int) (some (.int q)) M) {i1 : Nat} {x2 : Int32} (hi1 : i1 < cnt 8) (n : Nat) : ∀ {x3 : Int32} {x4 : Int32} (_ : f_X0_bestVerdict_5 i1 x2 M n x3 x4 = some q), G E Y 6 M 5 [(0, .ref (ad E 36 0)), (1, .ref (ad E 8 i1)), (2, .int x2), (3, .int x3), (4, .int x4)] [] := by
  induction n with
  | zero =>
    intro x3 x4 h
    cases (show none = some q from h)
  | succ n ih =>
    intro x3 x4 h
    rw [f_X0_bestVerdict_5] at h
    refine g_iload C dX0_bestVerdict_5 rfl ?_
    refine g_iconst (v := (-1 : Int32)) C dX0_bestVerdict_7 (by decide) ?_
    refine g_icmp_lt (tgt := 50) C dX0_bestVerdict_8 (by decide) h (fun h => ?_) (fun h => ?_)
    · refine g_iload_n C dX0_bestVerdict_50 rfl rfl ?_
      exact g_iret C R dX0_bestVerdict_51 (Option.some.inj h) rfl
    · refine g_aload_n C dX0_bestVerdict_11 rfl rfl ?_
      refine g_iload_n C dX0_bestVerdict_12 rfl rfl ?_
      refine g_iload C dX0_bestVerdict_13 rfl ?_
      obtain ⟨r1, hr1, h⟩ := Option.bind_eq_some_iff.mp h
      refine call_X0_119 C dX0_bestVerdict_15 hi1 (c_X1_weatherBehind E hi1 hr1) (by decide) rfl ?_
      refine g_istore C dX0_bestVerdict_18 rfl ?_
      refine g_aload_n C dX0_bestVerdict_20 rfl rfl ?_
      refine get_X0_34 C dX0_bestVerdict_21 (by decide) ?_
      refine g_iload C dX0_bestVerdict_24 rfl ?_
      obtain ⟨hb2, h⟩ := of_ite h
      refine ld_43 (j := _) C dX0_bestVerdict_26 (by decide) hb2 rfl ?_
      refine g_aload_n C dX0_bestVerdict_27 rfl rfl ?_
      refine get_X0_34 C dX0_bestVerdict_28 (by decide) ?_
      refine g_aload_n C dX0_bestVerdict_31 rfl rfl ?_
      refine g_iload_n C dX0_bestVerdict_32 rfl rfl ?_
      refine g_iload_n C dX0_bestVerdict_33 rfl rfl ?_
      obtain ⟨r3, hr3, h⟩ := Option.bind_eq_some_iff.mp h
      refine call_X0_119 C dX0_bestVerdict_34 hi1 (c_X1_weatherBehind E hi1 hr3) (by decide) rfl ?_
      obtain ⟨hb4, h⟩ := of_ite h
      refine ld_43 (j := _) C dX0_bestVerdict_37 (by decide) hb4 rfl ?_
      refine g_icmp_le (tgt := 44) C dX0_bestVerdict_38 (by decide) h (fun h => ?_) (fun h => ?_)
      · refine g_iinc (w := (-1 : Int32)) C dX0_bestVerdict_44 rfl (by decide) rfl ?_
        refine g_goto (tgt := 5) C dX0_bestVerdict_47 (by decide) ?_
        exact g_sub (ih h) ⟨rfl, rfl, rfl, rfl, rfl, trivial⟩
      · refine g_iload C dX0_bestVerdict_41 rfl ?_
        refine g_istore_n C dX0_bestVerdict_43 rfl rfl ?_
        refine g_iinc (w := (-1 : Int32)) C dX0_bestVerdict_44 rfl (by decide) rfl ?_
        refine g_goto (tgt := 5) C dX0_bestVerdict_47 (by decide) ?_
        exact g_sub (ih h) ⟨rfl, rfl, rfl, rfl, rfl, trivial⟩
set_option maxRecDepth 20000 in
set_option maxHeartbeats 2000000 in
theorem c_X0_bestVerdict (E : wEnv) {i1 : Nat} {x2 : Int32} {M : Mem} {q : Int32} (hi1 : i1 < cnt 8) (h : f_X0_bestVerdict i1 x2 M = some q) : Mt E yX0_bestVerdict cX0_bestVerdict 6 (some .int) 1 [.ref (ad E 36 0), .ref (ad E 8 i1), .int x2] M (some (.int q)) M := by
  unfold f_X0_bestVerdict at h
  refine mt_intro (own := RX0) (lv0 := [(0, .ref (ad E 36 0)), (1, .ref (ad E 8 i1)), (2, .int x2)]) (by decide) rfl rfl rfl (fun Y C R => ?_)
  refine g_iconst (v := (1 : Int32)) C dX0_bestVerdict_0 (by decide) ?_
  refine g_istore_n C dX0_bestVerdict_1 rfl rfl ?_
  refine g_iconst (v := (0 : Int32)) C dX0_bestVerdict_2 (by decide) ?_
  refine g_istore C dX0_bestVerdict_3 rfl ?_
  exact g_sub (b_X0_bestVerdict_5 C R hi1 _ h) ⟨rfl, rfl, rfl, rfl, rfl, trivial⟩
noncomputable def f_X1_clear_70 (i0 : Nat) : Nat → Int32 → Mem → Option Mem
  | 0, _, _ => none
  | n + 1, x1, M =>
  if x1 < (24 : Int32) then
    if inb x1 24 = true then
     let M4 := sR M 19 i0 (upd (M.1 19 i0) x1.toNatClampNeg (0 : Int32))
     f_X1_clear_70 i0 n (x1 + (1 : Int32)) M4
    else none
  else
    let M1 := sR M 8 i0 (upd (M.1 8 i0) 11 (0 : Int32))
    let M2 := sR M1 8 i0 (upd (M1.1 8 i0) 12 (0 : Int32))
    some M2
noncomputable def f_X1_clear_46 (i0 : Nat) : Nat → Int32 → Mem → Option Mem
  | 0, _, _ => none
  | n + 1, x1, M =>
  if x1 < (10 : Int32) then
    if inb x1 10 = true then
     let M6 := sR M 15 i0 (upd (M.1 15 i0) x1.toNatClampNeg (0 : Int32))
     f_X1_clear_46 i0 n (x1 + (1 : Int32)) M6
    else none
  else
    f_X1_clear_70 i0 FU (0 : Int32) M
noncomputable def f_X1_clear_22 (i0 : Nat) : Nat → Int32 → Mem → Option Mem
  | 0, _, _ => none
  | n + 1, x1, M =>
  if x1 < (100 : Int32) then
    if inb x1 100 = true then
     let M8 := sR M 14 i0 (upd (M.1 14 i0) x1.toNatClampNeg (0 : Int32))
     f_X1_clear_22 i0 n (x1 + (1 : Int32)) M8
    else none
  else
    f_X1_clear_46 i0 FU (0 : Int32) M
noncomputable def f_X1_clear_2 (i0 : Nat) : Nat → Int32 → Mem → Option Mem
  | 0, _, _ => none
  | n + 1, x1, M =>
  if x1 < (4 : Int32) then
    if inb x1 4 = true then
     let M10 := sR M 9 i0 (upd (M.1 9 i0) x1.toNatClampNeg (0 : Int32))
     f_X1_clear_2 i0 n (x1 + (1 : Int32)) M10
    else none
  else
    f_X1_clear_22 i0 FU (0 : Int32) M
noncomputable def f_X1_clear (i0 : Nat) (M : Mem) : Option Mem :=
  f_X1_clear_2 i0 FU (0 : Int32) M
set_option maxRecDepth 20000 in
set_option maxHeartbeats 2000000 in
theorem b_X1_clear_70 {E : wEnv} {Y : YT} (C : Cx E Y cX1_clear 2 RX1 0) {q : Mem} (R : Rx E Y none none q) {i0 : Nat} (hi0 : i0 < cnt 8) (n : Nat) : ∀ {x1 : Int32} {M : Mem} (_ : f_X1_clear_70 i0 n x1 M = some q), G E Y 2 M 70 [(0, .ref (ad E 8 i0)), (1, .int x1)] [] := by
  induction n with
  | zero =>
    intro x1 M h
    cases (show none = some q from h)
  | succ n ih =>
    intro x1 M h
    rw [f_X1_clear_70] at h
    refine g_iload_n C dX1_clear_70 rfl rfl ?_
    refine g_aload_n C dX1_clear_71 rfl rfl ?_
    refine get_X1_43 C dX1_clear_72 hi0 ?_
    refine g_alen (t := 0) (v := (24 : Int32)) C dX1_clear_75 (cE_19 E _ _) rfl (Nat.lt_of_lt_of_le hi0 (by decide : cnt 8 ≤ cnt 19)) rfl ?_
    refine g_icmp_ge (tgt := 92) C dX1_clear_76 (by decide) h (fun h => ?_) (fun h => ?_)
    · refine g_aload_n C dX1_clear_92 rfl rfl ?_
      refine g_iconst (v := (0 : Int32)) C dX1_clear_93 (by decide) ?_
      refine put_X1_46 C dX1_clear_94 hi0 ?_
      refine g_aload_n C dX1_clear_97 rfl rfl ?_
      refine g_iconst (v := (0 : Int32)) C dX1_clear_98 (by decide) ?_
      refine put_X1_50 C dX1_clear_99 hi0 ?_
      exact g_vret C R dX1_clear_102 (Option.some.inj h)
    · refine g_aload_n C dX1_clear_79 rfl rfl ?_
      refine get_X1_43 C dX1_clear_80 hi0 ?_
      refine g_iload_n C dX1_clear_83 rfl rfl ?_
      refine g_iconst (v := (0 : Int32)) C dX1_clear_84 (by decide) ?_
      obtain ⟨hb3, h⟩ := of_ite h
      refine st_19 (j := _) C dX1_clear_85 (Nat.lt_of_lt_of_le hi0 (by decide : cnt 8 ≤ cnt 19)) hb3 rfl ?_
      refine g_iinc (w := (1 : Int32)) C dX1_clear_86 rfl (by decide) rfl ?_
      refine g_goto (tgt := 70) C dX1_clear_89 (by decide) ?_
      exact g_sub (ih h) ⟨rfl, rfl, trivial⟩
set_option maxRecDepth 20000 in
set_option maxHeartbeats 2000000 in
theorem b_X1_clear_46 {E : wEnv} {Y : YT} (C : Cx E Y cX1_clear 2 RX1 0) {q : Mem} (R : Rx E Y none none q) {i0 : Nat} (hi0 : i0 < cnt 8) (n : Nat) : ∀ {x1 : Int32} {M : Mem} (_ : f_X1_clear_46 i0 n x1 M = some q), G E Y 2 M 46 [(0, .ref (ad E 8 i0)), (1, .int x1)] [] := by
  induction n with
  | zero =>
    intro x1 M h
    cases (show none = some q from h)
  | succ n ih =>
    intro x1 M h
    rw [f_X1_clear_46] at h
    refine g_iload_n C dX1_clear_46 rfl rfl ?_
    refine g_aload_n C dX1_clear_47 rfl rfl ?_
    refine get_X1_31 C dX1_clear_48 hi0 ?_
    refine g_alen (t := 0) (v := (10 : Int32)) C dX1_clear_51 (cE_15 E _ _) rfl (Nat.lt_of_lt_of_le hi0 (by decide : cnt 8 ≤ cnt 15)) rfl ?_
    refine g_icmp_ge (tgt := 68) C dX1_clear_52 (by decide) h (fun h => ?_) (fun h => ?_)
    · refine g_iconst (v := (0 : Int32)) C dX1_clear_68 (by decide) ?_
      refine g_istore_n C dX1_clear_69 rfl rfl ?_
      exact g_sub (b_X1_clear_70 C R hi0 _ h) ⟨rfl, rfl, trivial⟩
    · refine g_aload_n C dX1_clear_55 rfl rfl ?_
      refine get_X1_31 C dX1_clear_56 hi0 ?_
      refine g_iload_n C dX1_clear_59 rfl rfl ?_
      refine g_iconst (v := (0 : Int32)) C dX1_clear_60 (by decide) ?_
      obtain ⟨hb5, h⟩ := of_ite h
      refine st_15 (j := _) C dX1_clear_61 (Nat.lt_of_lt_of_le hi0 (by decide : cnt 8 ≤ cnt 15)) hb5 rfl ?_
      refine g_iinc (w := (1 : Int32)) C dX1_clear_62 rfl (by decide) rfl ?_
      refine g_goto (tgt := 46) C dX1_clear_65 (by decide) ?_
      exact g_sub (ih h) ⟨rfl, rfl, trivial⟩
set_option maxRecDepth 20000 in
set_option maxHeartbeats 2000000 in
theorem b_X1_clear_22 {E : wEnv} {Y : YT} (C : Cx E Y cX1_clear 2 RX1 0) {q : Mem} (R : Rx E Y none none q) {i0 : Nat} (hi0 : i0 < cnt 8) (n : Nat) : ∀ {x1 : Int32} {M : Mem} (_ : f_X1_clear_22 i0 n x1 M = some q), G E Y 2 M 22 [(0, .ref (ad E 8 i0)), (1, .int x1)] [] := by
  induction n with
  | zero =>
    intro x1 M h
    cases (show none = some q from h)
  | succ n ih =>
    intro x1 M h
    rw [f_X1_clear_22] at h
    refine g_iload_n C dX1_clear_22 rfl rfl ?_
    refine g_aload_n C dX1_clear_23 rfl rfl ?_
    refine get_X1_28 C dX1_clear_24 hi0 ?_
    refine g_alen (t := 0) (v := (100 : Int32)) C dX1_clear_27 (cE_14 E _ _) rfl (Nat.lt_of_lt_of_le hi0 (by decide : cnt 8 ≤ cnt 14)) rfl ?_
    refine g_icmp_ge (tgt := 44) C dX1_clear_28 (by decide) h (fun h => ?_) (fun h => ?_)
    · refine g_iconst (v := (0 : Int32)) C dX1_clear_44 (by decide) ?_
      refine g_istore_n C dX1_clear_45 rfl rfl ?_
      exact g_sub (b_X1_clear_46 C R hi0 _ h) ⟨rfl, rfl, trivial⟩
    · refine g_aload_n C dX1_clear_31 rfl rfl ?_
      refine get_X1_28 C dX1_clear_32 hi0 ?_
      refine g_iload_n C dX1_clear_35 rfl rfl ?_
      refine g_iconst (v := (0 : Int32)) C dX1_clear_36 (by decide) ?_
      obtain ⟨hb7, h⟩ := of_ite h
      refine st_14 (j := _) C dX1_clear_37 (Nat.lt_of_lt_of_le hi0 (by decide : cnt 8 ≤ cnt 14)) hb7 rfl ?_
      refine g_iinc (w := (1 : Int32)) C dX1_clear_38 rfl (by decide) rfl ?_
      refine g_goto (tgt := 22) C dX1_clear_41 (by decide) ?_
      exact g_sub (ih h) ⟨rfl, rfl, trivial⟩
set_option maxRecDepth 20000 in
set_option maxHeartbeats 2000000 in
theorem b_X1_clear_2 {E : wEnv} {Y : YT} (C : Cx E Y cX1_clear 2 RX1 0) {q : Mem} (R : Rx E Y none none q) {i0 : Nat} (hi0 : i0 < cnt 8) (n : Nat) : ∀ {x1 : Int32} {M : Mem} (_ : f_X1_clear_2 i0 n x1 M = some q), G E Y 2 M 2 [(0, .ref (ad E 8 i0)), (1, .int x1)] [] := by
  induction n with
  | zero =>
    intro x1 M h
    cases (show none = some q from h)
  | succ n ih =>
    intro x1 M h
    rw [f_X1_clear_2] at h
    refine g_iload_n C dX1_clear_2 rfl rfl ?_
    refine g_iconst (v := (4 : Int32)) C dX1_clear_3 (by decide) ?_
    refine g_icmp_ge (tgt := 20) C dX1_clear_4 (by decide) h (fun h => ?_) (fun h => ?_)
    · refine g_iconst (v := (0 : Int32)) C dX1_clear_20 (by decide) ?_
      refine g_istore_n C dX1_clear_21 rfl rfl ?_
      exact g_sub (b_X1_clear_22 C R hi0 _ h) ⟨rfl, rfl, trivial⟩
    · refine g_aload_n C dX1_clear_7 rfl rfl ?_
      refine get_X1_9 C dX1_clear_8 hi0 ?_
      refine g_iload_n C dX1_clear_11 rfl rfl ?_
      refine g_iconst (v := (0 : Int32)) C dX1_clear_12 (by decide) ?_
      obtain ⟨hb9, h⟩ := of_ite h
      refine st_9 (j := _) C dX1_clear_13 (Nat.lt_of_lt_of_le hi0 (by decide : cnt 8 ≤ cnt 9)) hb9 rfl ?_
      refine g_iinc (w := (1 : Int32)) C dX1_clear_14 rfl (by decide) rfl ?_
      refine g_goto (tgt := 2) C dX1_clear_17 (by decide) ?_
      exact g_sub (ih h) ⟨rfl, rfl, trivial⟩
set_option maxRecDepth 20000 in
set_option maxHeartbeats 2000000 in
theorem c_X1_clear (E : wEnv) {i0 : Nat} {M : Mem} {q : Mem} (hi0 : i0 < cnt 8) (h : f_X1_clear i0 M = some q) : Mt E yX1_clear cX1_clear 2 none 0 [.ref (ad E 8 i0)] M none q := by
  unfold f_X1_clear at h
  refine mt_intro (own := RX1) (lv0 := [(0, .ref (ad E 8 i0))]) (by decide) rfl rfl rfl (fun Y C R => ?_)
  refine g_iconst (v := (0 : Int32)) C dX1_clear_0 (by decide) ?_
  refine g_istore_n C dX1_clear_1 rfl rfl ?_
  exact g_sub (b_X1_clear_2 C R hi0 _ h) ⟨rfl, rfl, trivial⟩
noncomputable def f_X1_copyFrom (i0 : Nat) (i1 : Nat) (M : Mem) : Option Mem :=
  let M1 := sR M 9 i0 (va_cpy (M.1 9 i1) (M.1 9 i0) 0 0 4)
  let M2 := sL M1 10 i0 (va_cpy (M1.2 10 i1) (M1.2 10 i0) 0 0 40)
  let M3 := sR M2 11 i0 (va_cpy (M2.1 11 i1) (M2.1 11 i0) 0 0 10)
  let M4 := sR M3 12 i0 (va_cpy (M3.1 12 i1) (M3.1 12 i0) 0 0 10)
  let M5 := sR M4 13 i0 (va_cpy (M4.1 13 i1) (M4.1 13 i0) 0 0 10)
  let M6 := sR M5 14 i0 (va_cpy (M5.1 14 i1) (M5.1 14 i0) 0 0 100)
  let M7 := sR M6 15 i0 (va_cpy (M6.1 15 i1) (M6.1 15 i0) 0 0 10)
  let M8 := sR M7 16 i0 (va_cpy (M7.1 16 i1) (M7.1 16 i0) 0 0 6)
  let M9 := sR M8 17 i0 (va_cpy (M8.1 17 i1) (M8.1 17 i0) 0 0 6)
  let M10 := sR M9 18 i0 (va_cpy (M9.1 18 i1) (M9.1 18 i0) 0 0 6)
  let M11 := sR M10 19 i0 (va_cpy (M10.1 19 i1) (M10.1 19 i0) 0 0 24)
  let M12 := sR M11 8 i0 (upd (M11.1 8 i0) 11 (M11.1 8 i1 11))
  let M13 := sR M12 8 i0 (upd (M12.1 8 i0) 12 (M12.1 8 i1 12))
  some M13
set_option maxRecDepth 20000 in
set_option maxHeartbeats 2000000 in
theorem c_X1_copyFrom (E : wEnv) {i0 : Nat} {i1 : Nat} {M : Mem} {q : Mem} (hi0 : i0 < cnt 8) (hi1 : i1 < cnt 8) (h : f_X1_copyFrom i0 i1 M = some q) : Mt E yX1_copyFrom cX1_copyFrom 2 none 1 [.ref (ad E 8 i0), .ref (ad E 8 i1)] M none q := by
  unfold f_X1_copyFrom at h
  refine mt_intro (own := RX1) (lv0 := [(0, .ref (ad E 8 i0)), (1, .ref (ad E 8 i1))]) (by decide) rfl rfl rfl (fun Y C R => ?_)
  refine g_aload_n C dX1_copyFrom_0 rfl rfl ?_
  refine get_X1_9 C dX1_copyFrom_1 hi1 ?_
  refine g_iconst (v := (0 : Int32)) C dX1_copyFrom_4 (by decide) ?_
  refine g_aload_n C dX1_copyFrom_5 rfl rfl ?_
  refine get_X1_9 C dX1_copyFrom_6 hi0 ?_
  refine g_iconst (v := (0 : Int32)) C dX1_copyFrom_9 (by decide) ?_
  refine g_aload_n C dX1_copyFrom_10 rfl rfl ?_
  refine get_X1_9 C dX1_copyFrom_11 hi0 ?_
  refine g_alen (t := 0) (v := (4 : Int32)) C dX1_copyFrom_14 (cE_9 E _ _) rfl (Nat.lt_of_lt_of_le hi0 (by decide : cnt 8 ≤ cnt 9)) rfl ?_
  refine cp_X1_53_9_9 (js := 0) (jd := 0) (jn := 4) C dX1_copyFrom_15 (Nat.lt_of_lt_of_le hi1 (by decide : cnt 8 ≤ cnt 9)) (Nat.lt_of_lt_of_le hi0 (by decide : cnt 8 ≤ cnt 9)) (by decide) rfl rfl rfl (by decide) rfl ?_
  refine g_aload_n C dX1_copyFrom_18 rfl rfl ?_
  refine get_X1_15 C dX1_copyFrom_19 hi1 ?_
  refine g_iconst (v := (0 : Int32)) C dX1_copyFrom_22 (by decide) ?_
  refine g_aload_n C dX1_copyFrom_23 rfl rfl ?_
  refine get_X1_15 C dX1_copyFrom_24 hi0 ?_
  refine g_iconst (v := (0 : Int32)) C dX1_copyFrom_27 (by decide) ?_
  refine g_aload_n C dX1_copyFrom_28 rfl rfl ?_
  refine get_X1_15 C dX1_copyFrom_29 hi0 ?_
  refine g_alen (t := 2) (v := (40 : Int32)) C dX1_copyFrom_32 (cE_10 E _ _) rfl (Nat.lt_of_lt_of_le hi0 (by decide : cnt 8 ≤ cnt 10)) rfl ?_
  refine cp_X1_53_10_10 (js := 0) (jd := 0) (jn := 40) C dX1_copyFrom_33 (Nat.lt_of_lt_of_le hi1 (by decide : cnt 8 ≤ cnt 10)) (Nat.lt_of_lt_of_le hi0 (by decide : cnt 8 ≤ cnt 10)) (by decide) rfl rfl rfl (by decide) rfl ?_
  refine g_aload_n C dX1_copyFrom_36 rfl rfl ?_
  refine get_X1_19 C dX1_copyFrom_37 hi1 ?_
  refine g_iconst (v := (0 : Int32)) C dX1_copyFrom_40 (by decide) ?_
  refine g_aload_n C dX1_copyFrom_41 rfl rfl ?_
  refine get_X1_19 C dX1_copyFrom_42 hi0 ?_
  refine g_iconst (v := (0 : Int32)) C dX1_copyFrom_45 (by decide) ?_
  refine g_aload_n C dX1_copyFrom_46 rfl rfl ?_
  refine get_X1_19 C dX1_copyFrom_47 hi0 ?_
  refine g_alen (t := 0) (v := (10 : Int32)) C dX1_copyFrom_50 (cE_11 E _ _) rfl (Nat.lt_of_lt_of_le hi0 (by decide : cnt 8 ≤ cnt 11)) rfl ?_
  refine cp_X1_53_11_11 (js := 0) (jd := 0) (jn := 10) C dX1_copyFrom_51 (Nat.lt_of_lt_of_le hi1 (by decide : cnt 8 ≤ cnt 11)) (Nat.lt_of_lt_of_le hi0 (by decide : cnt 8 ≤ cnt 11)) (by decide) rfl rfl rfl (by decide) rfl ?_
  refine g_aload_n C dX1_copyFrom_54 rfl rfl ?_
  refine get_X1_22 C dX1_copyFrom_55 hi1 ?_
  refine g_iconst (v := (0 : Int32)) C dX1_copyFrom_58 (by decide) ?_
  refine g_aload_n C dX1_copyFrom_59 rfl rfl ?_
  refine get_X1_22 C dX1_copyFrom_60 hi0 ?_
  refine g_iconst (v := (0 : Int32)) C dX1_copyFrom_63 (by decide) ?_
  refine g_aload_n C dX1_copyFrom_64 rfl rfl ?_
  refine get_X1_22 C dX1_copyFrom_65 hi0 ?_
  refine g_alen (t := 0) (v := (10 : Int32)) C dX1_copyFrom_68 (cE_12 E _ _) rfl (Nat.lt_of_lt_of_le hi0 (by decide : cnt 8 ≤ cnt 12)) rfl ?_
  refine cp_X1_53_12_12 (js := 0) (jd := 0) (jn := 10) C dX1_copyFrom_69 (Nat.lt_of_lt_of_le hi1 (by decide : cnt 8 ≤ cnt 12)) (Nat.lt_of_lt_of_le hi0 (by decide : cnt 8 ≤ cnt 12)) (by decide) rfl rfl rfl (by decide) rfl ?_
  refine g_aload_n C dX1_copyFrom_72 rfl rfl ?_
  refine get_X1_25 C dX1_copyFrom_73 hi1 ?_
  refine g_iconst (v := (0 : Int32)) C dX1_copyFrom_76 (by decide) ?_
  refine g_aload_n C dX1_copyFrom_77 rfl rfl ?_
  refine get_X1_25 C dX1_copyFrom_78 hi0 ?_
  refine g_iconst (v := (0 : Int32)) C dX1_copyFrom_81 (by decide) ?_
  refine g_aload_n C dX1_copyFrom_82 rfl rfl ?_
  refine get_X1_25 C dX1_copyFrom_83 hi0 ?_
  refine g_alen (t := 0) (v := (10 : Int32)) C dX1_copyFrom_86 (cE_13 E _ _) rfl (Nat.lt_of_lt_of_le hi0 (by decide : cnt 8 ≤ cnt 13)) rfl ?_
  refine cp_X1_53_13_13 (js := 0) (jd := 0) (jn := 10) C dX1_copyFrom_87 (Nat.lt_of_lt_of_le hi1 (by decide : cnt 8 ≤ cnt 13)) (Nat.lt_of_lt_of_le hi0 (by decide : cnt 8 ≤ cnt 13)) (by decide) rfl rfl rfl (by decide) rfl ?_
  refine g_aload_n C dX1_copyFrom_90 rfl rfl ?_
  refine get_X1_28 C dX1_copyFrom_91 hi1 ?_
  refine g_iconst (v := (0 : Int32)) C dX1_copyFrom_94 (by decide) ?_
  refine g_aload_n C dX1_copyFrom_95 rfl rfl ?_
  refine get_X1_28 C dX1_copyFrom_96 hi0 ?_
  refine g_iconst (v := (0 : Int32)) C dX1_copyFrom_99 (by decide) ?_
  refine g_aload_n C dX1_copyFrom_100 rfl rfl ?_
  refine get_X1_28 C dX1_copyFrom_101 hi0 ?_
  refine g_alen (t := 0) (v := (100 : Int32)) C dX1_copyFrom_104 (cE_14 E _ _) rfl (Nat.lt_of_lt_of_le hi0 (by decide : cnt 8 ≤ cnt 14)) rfl ?_
  refine cp_X1_53_14_14 (js := 0) (jd := 0) (jn := 100) C dX1_copyFrom_105 (Nat.lt_of_lt_of_le hi1 (by decide : cnt 8 ≤ cnt 14)) (Nat.lt_of_lt_of_le hi0 (by decide : cnt 8 ≤ cnt 14)) (by decide) rfl rfl rfl (by decide) rfl ?_
  refine g_aload_n C dX1_copyFrom_108 rfl rfl ?_
  refine get_X1_31 C dX1_copyFrom_109 hi1 ?_
  refine g_iconst (v := (0 : Int32)) C dX1_copyFrom_112 (by decide) ?_
  refine g_aload_n C dX1_copyFrom_113 rfl rfl ?_
  refine get_X1_31 C dX1_copyFrom_114 hi0 ?_
  refine g_iconst (v := (0 : Int32)) C dX1_copyFrom_117 (by decide) ?_
  refine g_aload_n C dX1_copyFrom_118 rfl rfl ?_
  refine get_X1_31 C dX1_copyFrom_119 hi0 ?_
  refine g_alen (t := 0) (v := (10 : Int32)) C dX1_copyFrom_122 (cE_15 E _ _) rfl (Nat.lt_of_lt_of_le hi0 (by decide : cnt 8 ≤ cnt 15)) rfl ?_
  refine cp_X1_53_15_15 (js := 0) (jd := 0) (jn := 10) C dX1_copyFrom_123 (Nat.lt_of_lt_of_le hi1 (by decide : cnt 8 ≤ cnt 15)) (Nat.lt_of_lt_of_le hi0 (by decide : cnt 8 ≤ cnt 15)) (by decide) rfl rfl rfl (by decide) rfl ?_
  refine g_aload_n C dX1_copyFrom_126 rfl rfl ?_
  refine get_X1_34 C dX1_copyFrom_127 hi1 ?_
  refine g_iconst (v := (0 : Int32)) C dX1_copyFrom_130 (by decide) ?_
  refine g_aload_n C dX1_copyFrom_131 rfl rfl ?_
  refine get_X1_34 C dX1_copyFrom_132 hi0 ?_
  refine g_iconst (v := (0 : Int32)) C dX1_copyFrom_135 (by decide) ?_
  refine g_aload_n C dX1_copyFrom_136 rfl rfl ?_
  refine get_X1_34 C dX1_copyFrom_137 hi0 ?_
  refine g_alen (t := 0) (v := (6 : Int32)) C dX1_copyFrom_140 (cE_16 E _ _) rfl (Nat.lt_of_lt_of_le hi0 (by decide : cnt 8 ≤ cnt 16)) rfl ?_
  refine cp_X1_53_16_16 (js := 0) (jd := 0) (jn := 6) C dX1_copyFrom_141 (Nat.lt_of_lt_of_le hi1 (by decide : cnt 8 ≤ cnt 16)) (Nat.lt_of_lt_of_le hi0 (by decide : cnt 8 ≤ cnt 16)) (by decide) rfl rfl rfl (by decide) rfl ?_
  refine g_aload_n C dX1_copyFrom_144 rfl rfl ?_
  refine get_X1_37 C dX1_copyFrom_145 hi1 ?_
  refine g_iconst (v := (0 : Int32)) C dX1_copyFrom_148 (by decide) ?_
  refine g_aload_n C dX1_copyFrom_149 rfl rfl ?_
  refine get_X1_37 C dX1_copyFrom_150 hi0 ?_
  refine g_iconst (v := (0 : Int32)) C dX1_copyFrom_153 (by decide) ?_
  refine g_aload_n C dX1_copyFrom_154 rfl rfl ?_
  refine get_X1_37 C dX1_copyFrom_155 hi0 ?_
  refine g_alen (t := 0) (v := (6 : Int32)) C dX1_copyFrom_158 (cE_17 E _ _) rfl (Nat.lt_of_lt_of_le hi0 (by decide : cnt 8 ≤ cnt 17)) rfl ?_
  refine cp_X1_53_17_17 (js := 0) (jd := 0) (jn := 6) C dX1_copyFrom_159 (Nat.lt_of_lt_of_le hi1 (by decide : cnt 8 ≤ cnt 17)) (Nat.lt_of_lt_of_le hi0 (by decide : cnt 8 ≤ cnt 17)) (by decide) rfl rfl rfl (by decide) rfl ?_
  refine g_aload_n C dX1_copyFrom_162 rfl rfl ?_
  refine get_X1_40 C dX1_copyFrom_163 hi1 ?_
  refine g_iconst (v := (0 : Int32)) C dX1_copyFrom_166 (by decide) ?_
  refine g_aload_n C dX1_copyFrom_167 rfl rfl ?_
  refine get_X1_40 C dX1_copyFrom_168 hi0 ?_
  refine g_iconst (v := (0 : Int32)) C dX1_copyFrom_171 (by decide) ?_
  refine g_aload_n C dX1_copyFrom_172 rfl rfl ?_
  refine get_X1_40 C dX1_copyFrom_173 hi0 ?_
  refine g_alen (t := 0) (v := (6 : Int32)) C dX1_copyFrom_176 (cE_18 E _ _) rfl (Nat.lt_of_lt_of_le hi0 (by decide : cnt 8 ≤ cnt 18)) rfl ?_
  refine cp_X1_53_18_18 (js := 0) (jd := 0) (jn := 6) C dX1_copyFrom_177 (Nat.lt_of_lt_of_le hi1 (by decide : cnt 8 ≤ cnt 18)) (Nat.lt_of_lt_of_le hi0 (by decide : cnt 8 ≤ cnt 18)) (by decide) rfl rfl rfl (by decide) rfl ?_
  refine g_aload_n C dX1_copyFrom_180 rfl rfl ?_
  refine get_X1_43 C dX1_copyFrom_181 hi1 ?_
  refine g_iconst (v := (0 : Int32)) C dX1_copyFrom_184 (by decide) ?_
  refine g_aload_n C dX1_copyFrom_185 rfl rfl ?_
  refine get_X1_43 C dX1_copyFrom_186 hi0 ?_
  refine g_iconst (v := (0 : Int32)) C dX1_copyFrom_189 (by decide) ?_
  refine g_aload_n C dX1_copyFrom_190 rfl rfl ?_
  refine get_X1_43 C dX1_copyFrom_191 hi0 ?_
  refine g_alen (t := 0) (v := (24 : Int32)) C dX1_copyFrom_194 (cE_19 E _ _) rfl (Nat.lt_of_lt_of_le hi0 (by decide : cnt 8 ≤ cnt 19)) rfl ?_
  refine cp_X1_53_19_19 (js := 0) (jd := 0) (jn := 24) C dX1_copyFrom_195 (Nat.lt_of_lt_of_le hi1 (by decide : cnt 8 ≤ cnt 19)) (Nat.lt_of_lt_of_le hi0 (by decide : cnt 8 ≤ cnt 19)) (by decide) rfl rfl rfl (by decide) rfl ?_
  refine g_aload_n C dX1_copyFrom_198 rfl rfl ?_
  refine g_aload_n C dX1_copyFrom_199 rfl rfl ?_
  refine get_X1_46 C dX1_copyFrom_200 hi1 ?_
  refine put_X1_46 C dX1_copyFrom_203 hi0 ?_
  refine g_aload_n C dX1_copyFrom_206 rfl rfl ?_
  refine g_aload_n C dX1_copyFrom_207 rfl rfl ?_
  refine get_X1_50 C dX1_copyFrom_208 hi1 ?_
  refine put_X1_50 C dX1_copyFrom_211 hi0 ?_
  exact g_vret C R dX1_copyFrom_214 (Option.some.inj h)
noncomputable def f_X1_find_3 (i0 : Nat) (x1 : Int32) (l2 : Int64) (M : Mem) : Nat → Int32 → Option Int32
  | 0, _ => none
  | n + 1, x4 =>
  if inb x1 4 = true then
   if x4 < (M.1 9 i0 x1.toNatClampNeg) then
     if inb ((x1 * (10 : Int32)) + x4) 40 = true then
      if (lg_cmp (M.2 10 i0 (((x1 * (10 : Int32)) + x4).toNatClampNeg)) l2) = 0 then
        some x4
      else
        f_X1_find_3 i0 x1 l2 M n (x4 + (1 : Int32))
     else none
   else
     some (-1 : Int32)
  else none
noncomputable def f_X1_find (i0 : Nat) (x1 : Int32) (l2 : Int64) (M : Mem) : Option Int32 :=
  f_X1_find_3 i0 x1 l2 M FU (0 : Int32)
set_option maxRecDepth 20000 in
set_option maxHeartbeats 2000000 in
theorem b_X1_find_3 {E : wEnv} {Y : YT} (C : Cx E Y cX1_find 5 RX1 0) {q : Int32} {M : Mem} (R : Rx E Y (some .int) (some (.int q)) M) {i0 : Nat} {x1 : Int32} {l2 : Int64} (hi0 : i0 < cnt 8) (n : Nat) : ∀ {x4 : Int32} (_ : f_X1_find_3 i0 x1 l2 M n x4 = some q), G E Y 5 M 3 [(0, .ref (ad E 8 i0)), (1, .int x1), (2, .long l2), (4, .int x4)] [] := by
  induction n with
  | zero =>
    intro x4 h
    cases (show none = some q from h)
  | succ n ih =>
    intro x4 h
    rw [f_X1_find_3] at h
    refine g_iload C dX1_find_3 rfl ?_
    refine g_aload_n C dX1_find_5 rfl rfl ?_
    refine get_X1_9 C dX1_find_6 hi0 ?_
    refine g_iload_n C dX1_find_9 rfl rfl ?_
    obtain ⟨hb1, h⟩ := of_ite h
    refine ld_9 (j := _) C dX1_find_10 (Nat.lt_of_lt_of_le hi0 (by decide : cnt 8 ≤ cnt 9)) hb1 rfl ?_
    refine g_icmp_ge (tgt := 40) C dX1_find_11 (by decide) h (fun h => ?_) (fun h => ?_)
    · refine g_iconst (v := (-1 : Int32)) C dX1_find_40 (by decide) ?_
      exact g_iret C R dX1_find_41 (Option.some.inj h) rfl
    · refine g_aload_n C dX1_find_14 rfl rfl ?_
      refine get_X1_15 C dX1_find_15 hi0 ?_
      refine g_iload_n C dX1_find_18 rfl rfl ?_
      refine g_bipush (v := (10 : Int32)) C dX1_find_19 (by decide) ?_
      refine g_imul C dX1_find_21 ?_
      refine g_iload C dX1_find_22 rfl ?_
      refine g_iadd C dX1_find_24 ?_
      obtain ⟨hb2, h⟩ := of_ite h
      refine ld_10 (j := _) C dX1_find_25 (Nat.lt_of_lt_of_le hi0 (by decide : cnt 8 ≤ cnt 10)) hb2 rfl ?_
      refine g_lload_n C dX1_find_26 rfl rfl ?_
      refine g_lcmp C dX1_find_27 ?_
      refine g_if_ne (tgt := 34) C dX1_find_28 (by decide) h (fun h => ?_) (fun h => ?_)
      · refine g_iinc (w := (1 : Int32)) C dX1_find_34 rfl (by decide) rfl ?_
        refine g_goto (tgt := 3) C dX1_find_37 (by decide) ?_
        exact g_sub (ih h) ⟨rfl, rfl, rfl, rfl, trivial⟩
      · refine g_iload C dX1_find_31 rfl ?_
        exact g_iret C R dX1_find_33 (Option.some.inj h) rfl
set_option maxRecDepth 20000 in
set_option maxHeartbeats 2000000 in
theorem c_X1_find (E : wEnv) {i0 : Nat} {x1 : Int32} {l2 : Int64} {M : Mem} {q : Int32} (hi0 : i0 < cnt 8) (h : f_X1_find i0 x1 l2 M = some q) : Mt E yX1_find cX1_find 5 (some .int) 0 [.ref (ad E 8 i0), .int x1, .long l2] M (some (.int q)) M := by
  unfold f_X1_find at h
  refine mt_intro (own := RX1) (lv0 := [(0, .ref (ad E 8 i0)), (1, .int x1), (2, .long l2)]) (by decide) rfl rfl rfl (fun Y C R => ?_)
  refine g_iconst (v := (0 : Int32)) C dX1_find_0 (by decide) ?_
  refine g_istore C dX1_find_1 rfl ?_
  exact g_sub (b_X1_find_3 C R hi0 _ h) ⟨rfl, rfl, rfl, rfl, trivial⟩
noncomputable def f_X1_isTaken_2 (i0 : Nat) (l1 : Int64) (M : Mem) : Nat → Int32 → Option Int32
  | 0, _ => none
  | n + 1, x3 =>
  if x3 < (4 : Int32) then
    (f_X1_find i0 x3 l1 M).bind fun r1 =>
    if r1 = (-1 : Int32) then
      f_X1_isTaken_2 i0 l1 M n (x3 + (1 : Int32))
    else
      some (1 : Int32)
  else
    some (0 : Int32)
noncomputable def f_X1_isTaken (i0 : Nat) (l1 : Int64) (M : Mem) : Option Int32 :=
  f_X1_isTaken_2 i0 l1 M FU (0 : Int32)
set_option maxRecDepth 20000 in
set_option maxHeartbeats 2000000 in
theorem b_X1_isTaken_2 {E : wEnv} {Y : YT} (C : Cx E Y cX1_isTaken 4 RX1 1) {q : Int32} {M : Mem} (R : Rx E Y (some .boolean) (some (.int q)) M) {i0 : Nat} {l1 : Int64} (hi0 : i0 < cnt 8) (n : Nat) : ∀ {x3 : Int32} (_ : f_X1_isTaken_2 i0 l1 M n x3 = some q), G E Y 4 M 2 [(0, .ref (ad E 8 i0)), (1, .long l1), (3, .int x3)] [] := by
  induction n with
  | zero =>
    intro x3 h
    cases (show none = some q from h)
  | succ n ih =>
    intro x3 h
    rw [f_X1_isTaken_2] at h
    refine g_iload_n C dX1_isTaken_2 rfl rfl ?_
    refine g_iconst (v := (4 : Int32)) C dX1_isTaken_3 (by decide) ?_
    refine g_icmp_ge (tgt := 25) C dX1_isTaken_4 (by decide) h (fun h => ?_) (fun h => ?_)
    · refine g_iconst (v := (0 : Int32)) C dX1_isTaken_25 (by decide) ?_
      exact g_zret C R dX1_isTaken_26 (Option.some.inj h) (Or.inl rfl) rfl
    · refine g_aload_n C dX1_isTaken_7 rfl rfl ?_
      refine g_iload_n C dX1_isTaken_8 rfl rfl ?_
      refine g_lload_n C dX1_isTaken_9 rfl rfl ?_
      obtain ⟨r1, hr1, h⟩ := Option.bind_eq_some_iff.mp h
      refine call_X1_59 C dX1_isTaken_10 hi0 (c_X1_find E hi0 hr1) (by decide) rfl ?_
      refine g_iconst (v := (-1 : Int32)) C dX1_isTaken_13 (by decide) ?_
      refine g_icmp_eq (tgt := 19) C dX1_isTaken_14 (by decide) h (fun h => ?_) (fun h => ?_)
      · refine g_iinc (w := (1 : Int32)) C dX1_isTaken_19 rfl (by decide) rfl ?_
        refine g_goto (tgt := 2) C dX1_isTaken_22 (by decide) ?_
        exact g_sub (ih h) ⟨rfl, rfl, rfl, trivial⟩
      · refine g_iconst (v := (1 : Int32)) C dX1_isTaken_17 (by decide) ?_
        exact g_zret C R dX1_isTaken_18 (Option.some.inj h) (Or.inr rfl) rfl
set_option maxRecDepth 20000 in
set_option maxHeartbeats 2000000 in
theorem c_X1_isTaken (E : wEnv) {i0 : Nat} {l1 : Int64} {M : Mem} {q : Int32} (hi0 : i0 < cnt 8) (h : f_X1_isTaken i0 l1 M = some q) : Mt E yX1_isTaken cX1_isTaken 4 (some .boolean) 1 [.ref (ad E 8 i0), .long l1] M (some (.int q)) M := by
  unfold f_X1_isTaken at h
  refine mt_intro (own := RX1) (lv0 := [(0, .ref (ad E 8 i0)), (1, .long l1)]) (by decide) rfl rfl rfl (fun Y C R => ?_)
  refine g_iconst (v := (0 : Int32)) C dX1_isTaken_0 (by decide) ?_
  refine g_istore_n C dX1_isTaken_1 rfl rfl ?_
  exact g_sub (b_X1_isTaken_2 C R hi0 _ h) ⟨rfl, rfl, rfl, trivial⟩
noncomputable def f_X1_isFull (i0 : Nat) (x1 : Int32) (M : Mem) : Option Int32 :=
  if inb x1 4 = true then
    if (M.1 9 i0 x1.toNatClampNeg) < mostOf x1.toNatClampNeg then some (0 : Int32) else some (1 : Int32)
  else none
set_option maxRecDepth 20000 in
theorem c_X1_isFull (E : wEnv) {i0 : Nat} {x1 : Int32} {M : Mem} {q : Int32} (hi0 : i0 < cnt 8) (h : f_X1_isFull i0 x1 M = some q) : Mt E yX1_isFull cX1_isFull 2 (some .boolean) 0 [.ref (ad E 8 i0), .int x1] M (some (.int q)) M := by
  unfold f_X1_isFull at h
  refine mt_intro (own := RX1) (lv0 := [(0, .ref (ad E 8 i0)), (1, .int x1)]) (by decide) rfl rfl rfl (fun Y C R => ?_)
  obtain ⟨hb1, h⟩ := of_ite h
  refine g_aload_n C dX1_isFull_0 rfl rfl ?_
  refine get_X1_9 C dX1_isFull_1 hi0 ?_
  refine g_iload_n C dX1_isFull_4 rfl rfl ?_
  refine ld_9 (j := _) C dX1_isFull_5 (Nat.lt_of_lt_of_le hi0 (by decide)) hb1 rfl ?_
  refine g_gets63 C R.2.2.1 dX1_isFull_6 (fun t hX ht hn => ?_)
  refine g_iload_n C dX1_isFull_9 rfl rfl ?_
  refine g_sld63 C hX ht hn dX1_isFull_10 hb1 ?_
  refine g_icmp_lt (tgt := 18) C dX1_isFull_11 (by decide) h (fun h => ?_) (fun h => ?_)
  · refine g_iconst (v := (0 : Int32)) C dX1_isFull_18 (by decide) ?_
    exact g_zret C R dX1_isFull_19 (Option.some.inj h) (Or.inl rfl) rfl
  · refine g_iconst (v := (1 : Int32)) C dX1_isFull_14 (by decide) ?_
    refine g_goto (tgt := 19) C dX1_isFull_15 (by decide) ?_
    exact g_zret C R dX1_isFull_19 (Option.some.inj h) (Or.inr rfl) rfl

noncomputable def f_X1_addThing (i0 : Nat) (x1 : Int32) (l2 : Int64) (M : Mem) : Option (Int32 × Mem) :=
  if inb x1 4 = true then
   let x4_2 := (M.1 9 i0 x1.toNatClampNeg)
   if inb ((x1 * (10 : Int32)) + x4_2) 40 = true then
    let M4 := sL M 10 i0 (vp_updL (M.2 10 i0) (((x1 * (10 : Int32)) + x4_2).toNatClampNeg) l2)
    if inb x1 4 = true then
     if inb x1 4 = true then
      let M7 := sR M4 9 i0 (upd (M4.1 9 i0) x1.toNatClampNeg ((M4.1 9 i0 x1.toNatClampNeg) + (1 : Int32)))
      some (x4_2, M7)
     else none
    else none
   else none
  else none
set_option maxRecDepth 20000 in
set_option maxHeartbeats 2000000 in
theorem c_X1_addThing (E : wEnv) {i0 : Nat} {x1 : Int32} {l2 : Int64} {M : Mem} {q : (Int32 × Mem)} (hi0 : i0 < cnt 8) (h : f_X1_addThing i0 x1 l2 M = some q) : Mt E yX1_addThing cX1_addThing 5 (some .int) 0 [.ref (ad E 8 i0), .int x1, .long l2] M (some (.int q.1)) q.2 := by
  unfold f_X1_addThing at h
  refine mt_intro (own := RX1) (lv0 := [(0, .ref (ad E 8 i0)), (1, .int x1), (2, .long l2)]) (by decide) rfl rfl rfl (fun Y C R => ?_)
  refine g_aload_n C dX1_addThing_0 rfl rfl ?_
  refine get_X1_9 C dX1_addThing_1 hi0 ?_
  refine g_iload_n C dX1_addThing_4 rfl rfl ?_
  obtain ⟨hb1, h⟩ := of_ite h
  refine ld_9 (j := _) C dX1_addThing_5 (Nat.lt_of_lt_of_le hi0 (by decide : cnt 8 ≤ cnt 9)) hb1 rfl ?_
  refine g_istore C dX1_addThing_6 rfl ?_
  refine g_aload_n C dX1_addThing_8 rfl rfl ?_
  refine get_X1_15 C dX1_addThing_9 hi0 ?_
  refine g_iload_n C dX1_addThing_12 rfl rfl ?_
  refine g_bipush (v := (10 : Int32)) C dX1_addThing_13 (by decide) ?_
  refine g_imul C dX1_addThing_15 ?_
  refine g_iload C dX1_addThing_16 rfl ?_
  refine g_iadd C dX1_addThing_18 ?_
  refine g_lload_n C dX1_addThing_19 rfl rfl ?_
  obtain ⟨hb3, h⟩ := of_ite h
  refine st_10 (j := _) C dX1_addThing_20 (Nat.lt_of_lt_of_le hi0 (by decide : cnt 8 ≤ cnt 10)) hb3 rfl ?_
  refine g_aload_n C dX1_addThing_21 rfl rfl ?_
  refine get_X1_9 C dX1_addThing_22 hi0 ?_
  refine g_iload_n C dX1_addThing_25 rfl rfl ?_
  refine g_dup2 C dX1_addThing_26 rfl rfl ?_
  obtain ⟨hb5, h⟩ := of_ite h
  refine ld_9 (j := _) C dX1_addThing_27 (Nat.lt_of_lt_of_le hi0 (by decide : cnt 8 ≤ cnt 9)) hb5 rfl ?_
  refine g_iconst (v := (1 : Int32)) C dX1_addThing_28 (by decide) ?_
  refine g_iadd C dX1_addThing_29 ?_
  obtain ⟨hb6, h⟩ := of_ite h
  refine st_9 (j := _) C dX1_addThing_30 (Nat.lt_of_lt_of_le hi0 (by decide : cnt 8 ≤ cnt 9)) hb6 rfl ?_
  refine g_iload C dX1_addThing_31 rfl ?_
  exact g_iret C R dX1_addThing_33 (fst_of h) (snd_of h)
noncomputable def f_X1_swayOf (i0 : Nat) (x1 : Int32) (x2 : Int32) (M : Mem) : Option Int32 :=
  if inb ((x2 * (10 : Int32)) + x1) 100 = true then
   some (M.1 14 i0 (((x2 * (10 : Int32)) + x1).toNatClampNeg))
  else none
set_option maxRecDepth 20000 in
set_option maxHeartbeats 2000000 in
theorem c_X1_swayOf (E : wEnv) {i0 : Nat} {x1 : Int32} {x2 : Int32} {M : Mem} {q : Int32} (hi0 : i0 < cnt 8) (h : f_X1_swayOf i0 x1 x2 M = some q) : Mt E yX1_swayOf cX1_swayOf 3 (some .int) 0 [.ref (ad E 8 i0), .int x1, .int x2] M (some (.int q)) M := by
  unfold f_X1_swayOf at h
  refine mt_intro (own := RX1) (lv0 := [(0, .ref (ad E 8 i0)), (1, .int x1), (2, .int x2)]) (by decide) rfl rfl rfl (fun Y C R => ?_)
  refine g_aload_n C dX1_swayOf_0 rfl rfl ?_
  refine get_X1_28 C dX1_swayOf_1 hi0 ?_
  refine g_iload_n C dX1_swayOf_4 rfl rfl ?_
  refine g_bipush (v := (10 : Int32)) C dX1_swayOf_5 (by decide) ?_
  refine g_imul C dX1_swayOf_7 ?_
  refine g_iload_n C dX1_swayOf_8 rfl rfl ?_
  refine g_iadd C dX1_swayOf_9 ?_
  obtain ⟨hb1, h⟩ := of_ite h
  refine ld_14 (j := _) C dX1_swayOf_10 (Nat.lt_of_lt_of_le hi0 (by decide : cnt 8 ≤ cnt 14)) hb1 rfl ?_
  exact g_iret C R dX1_swayOf_11 (Option.some.inj h) rfl
noncomputable def f_X1_setSway (i0 : Nat) (x1 : Int32) (x2 : Int32) (x3 : Int32) (M : Mem) : Option Mem :=
  if inb ((x2 * (10 : Int32)) + x1) 100 = true then
   let M2 := sR M 14 i0 (upd (M.1 14 i0) (((x2 * (10 : Int32)) + x1).toNatClampNeg) x3)
   let x4_3 := ((1 : Int32) <<< (x1 &&& 31))
   if 0 < x3 then
     if inb x2 10 = true then
      if inb x2 10 = true then
       let M9 := sR M2 15 i0 (upd (M2.1 15 i0) x2.toNatClampNeg ((M2.1 15 i0 x2.toNatClampNeg) ||| x4_3))
       some M9
      else none
     else none
   else
     if inb x2 10 = true then
      if inb x2 10 = true then
       let M6 := sR M2 15 i0 (upd (M2.1 15 i0) x2.toNatClampNeg ((M2.1 15 i0 x2.toNatClampNeg) &&& (x4_3 ^^^ (-1 : Int32))))
       some M6
      else none
     else none
  else none
set_option maxRecDepth 20000 in
set_option maxHeartbeats 2000000 in
theorem c_X1_setSway (E : wEnv) {i0 : Nat} {x1 : Int32} {x2 : Int32} {x3 : Int32} {M : Mem} {q : Mem} (hi0 : i0 < cnt 8) (h : f_X1_setSway i0 x1 x2 x3 M = some q) : Mt E yX1_setSway cX1_setSway 5 none 0 [.ref (ad E 8 i0), .int x1, .int x2, .int x3] M none q := by
  unfold f_X1_setSway at h
  refine mt_intro (own := RX1) (lv0 := [(0, .ref (ad E 8 i0)), (1, .int x1), (2, .int x2), (3, .int x3)]) (by decide) rfl rfl rfl (fun Y C R => ?_)
  refine g_aload_n C dX1_setSway_0 rfl rfl ?_
  refine get_X1_28 C dX1_setSway_1 hi0 ?_
  refine g_iload_n C dX1_setSway_4 rfl rfl ?_
  refine g_bipush (v := (10 : Int32)) C dX1_setSway_5 (by decide) ?_
  refine g_imul C dX1_setSway_7 ?_
  refine g_iload_n C dX1_setSway_8 rfl rfl ?_
  refine g_iadd C dX1_setSway_9 ?_
  refine g_iload_n C dX1_setSway_10 rfl rfl ?_
  obtain ⟨hb1, h⟩ := of_ite h
  refine st_14 (j := _) C dX1_setSway_11 (Nat.lt_of_lt_of_le hi0 (by decide : cnt 8 ≤ cnt 14)) hb1 rfl ?_
  refine g_iconst (v := (1 : Int32)) C dX1_setSway_12 (by decide) ?_
  refine g_iload_n C dX1_setSway_13 rfl rfl ?_
  refine g_ishl C dX1_setSway_14 ?_
  refine g_istore C dX1_setSway_15 rfl ?_
  refine g_aload_n C dX1_setSway_17 rfl rfl ?_
  refine get_X1_31 C dX1_setSway_18 hi0 ?_
  refine g_iload_n C dX1_setSway_21 rfl rfl ?_
  refine g_iload_n C dX1_setSway_22 rfl rfl ?_
  refine g_if_le (tgt := 38) C dX1_setSway_23 (by decide) h (fun h => ?_) (fun h => ?_)
  · refine g_aload_n C dX1_setSway_38 rfl rfl ?_
    refine get_X1_31 C dX1_setSway_39 hi0 ?_
    refine g_iload_n C dX1_setSway_42 rfl rfl ?_
    obtain ⟨hb4, h⟩ := of_ite h
    refine ld_15 (j := _) C dX1_setSway_43 (Nat.lt_of_lt_of_le hi0 (by decide : cnt 8 ≤ cnt 15)) hb4 rfl ?_
    refine g_iload C dX1_setSway_44 rfl ?_
    refine g_iconst (v := (-1 : Int32)) C dX1_setSway_46 (by decide) ?_
    refine g_ixor C dX1_setSway_47 ?_
    refine g_iand C dX1_setSway_48 ?_
    obtain ⟨hb5, h⟩ := of_ite h
    refine st_15 (j := _) C dX1_setSway_49 (Nat.lt_of_lt_of_le hi0 (by decide : cnt 8 ≤ cnt 15)) hb5 rfl ?_
    exact g_vret C R dX1_setSway_50 (Option.some.inj h)
  · refine g_aload_n C dX1_setSway_26 rfl rfl ?_
    refine get_X1_31 C dX1_setSway_27 hi0 ?_
    refine g_iload_n C dX1_setSway_30 rfl rfl ?_
    obtain ⟨hb7, h⟩ := of_ite h
    refine ld_15 (j := _) C dX1_setSway_31 (Nat.lt_of_lt_of_le hi0 (by decide : cnt 8 ≤ cnt 15)) hb7 rfl ?_
    refine g_iload C dX1_setSway_32 rfl ?_
    refine g_ior C dX1_setSway_34 ?_
    refine g_goto (tgt := 49) C dX1_setSway_35 (by decide) ?_
    obtain ⟨hb8, h⟩ := of_ite h
    refine st_15 (j := _) C dX1_setSway_49 (Nat.lt_of_lt_of_le hi0 (by decide : cnt 8 ≤ cnt 15)) hb8 rfl ?_
    exact g_vret C R dX1_setSway_50 (Option.some.inj h)
noncomputable def f_X1_setGrowth (i0 : Nat) (x1 : Int32) (x2 : Int32) (x3 : Int32) (M : Mem) : Option Mem :=
  if inb ((x1 * (6 : Int32)) + x2) 24 = true then
   let M2 := sR M 19 i0 (upd (M.1 19 i0) (((x1 * (6 : Int32)) + x2).toNatClampNeg) x3)
   some M2
  else none
set_option maxRecDepth 20000 in
set_option maxHeartbeats 2000000 in
theorem c_X1_setGrowth (E : wEnv) {i0 : Nat} {x1 : Int32} {x2 : Int32} {x3 : Int32} {M : Mem} {q : Mem} (hi0 : i0 < cnt 8) (h : f_X1_setGrowth i0 x1 x2 x3 M = some q) : Mt E yX1_setGrowth cX1_setGrowth 4 none 0 [.ref (ad E 8 i0), .int x1, .int x2, .int x3] M none q := by
  unfold f_X1_setGrowth at h
  refine mt_intro (own := RX1) (lv0 := [(0, .ref (ad E 8 i0)), (1, .int x1), (2, .int x2), (3, .int x3)]) (by decide) rfl rfl rfl (fun Y C R => ?_)
  refine g_aload_n C dX1_setGrowth_0 rfl rfl ?_
  refine get_X1_43 C dX1_setGrowth_1 hi0 ?_
  refine g_iload_n C dX1_setGrowth_4 rfl rfl ?_
  refine g_bipush (v := (6 : Int32)) C dX1_setGrowth_5 (by decide) ?_
  refine g_imul C dX1_setGrowth_7 ?_
  refine g_iload_n C dX1_setGrowth_8 rfl rfl ?_
  refine g_iadd C dX1_setGrowth_9 ?_
  refine g_iload_n C dX1_setGrowth_10 rfl rfl ?_
  obtain ⟨hb1, h⟩ := of_ite h
  refine st_19 (j := _) C dX1_setGrowth_11 (Nat.lt_of_lt_of_le hi0 (by decide : cnt 8 ≤ cnt 19)) hb1 rfl ?_
  exact g_vret C R dX1_setGrowth_12 (Option.some.inj h)
noncomputable def f_X1_dayMore_4 (i0 : Nat) (x1 : Int32) (M : Mem) : Nat → Int32 → Int32 → Option Int32
  | 0, _, _ => none
  | n + 1, x2, x3 =>
  if x3 < (M.1 9 i0 2) then
    if ((x1 >>> (x3 &&& 31)) &&& (1 : Int32)) = 0 then
      f_X1_dayMore_4 i0 x1 M n x2 (x3 + (1 : Int32))
    else
      if inb x3 6 = true then
       if inb x3 6 = true then
        let x2_3 := (x2 ||| (((1 : Int32) <<< ((M.1 17 i0 x3.toNatClampNeg) &&& 31)) ||| ((1 : Int32) <<< ((M.1 18 i0 x3.toNatClampNeg) &&& 31))))
        f_X1_dayMore_4 i0 x1 M n x2_3 (x3 + (1 : Int32))
       else none
      else none
  else
    some x2
noncomputable def f_X1_dayMore (i0 : Nat) (x1 : Int32) (M : Mem) : Option Int32 :=
  f_X1_dayMore_4 i0 x1 M FU x1 (0 : Int32)
set_option maxRecDepth 20000 in
set_option maxHeartbeats 2000000 in
theorem b_X1_dayMore_4 {E : wEnv} {Y : YT} (C : Cx E Y cX1_dayMore 4 RX1 0) {q : Int32} {M : Mem} (R : Rx E Y (some .int) (some (.int q)) M) {i0 : Nat} {x1 : Int32} (hi0 : i0 < cnt 8) (n : Nat) : ∀ {x2 : Int32} {x3 : Int32} (_ : f_X1_dayMore_4 i0 x1 M n x2 x3 = some q), G E Y 4 M 4 [(0, .ref (ad E 8 i0)), (1, .int x1), (2, .int x2), (3, .int x3)] [] := by
  induction n with
  | zero =>
    intro x2 x3 h
    cases (show none = some q from h)
  | succ n ih =>
    intro x2 x3 h
    rw [f_X1_dayMore_4] at h
    refine g_iload_n C dX1_dayMore_4 rfl rfl ?_
    refine g_aload_n C dX1_dayMore_5 rfl rfl ?_
    refine get_X1_9 C dX1_dayMore_6 hi0 ?_
    refine g_iconst (v := (2 : Int32)) C dX1_dayMore_9 (by decide) ?_
    refine ld_9 (j := 2) C dX1_dayMore_10 (Nat.lt_of_lt_of_le hi0 (by decide : cnt 8 ≤ cnt 9)) (by decide) rfl ?_
    refine g_icmp_ge (tgt := 48) C dX1_dayMore_11 (by decide) h (fun h => ?_) (fun h => ?_)
    · refine g_iload_n C dX1_dayMore_48 rfl rfl ?_
      exact g_iret C R dX1_dayMore_49 (Option.some.inj h) rfl
    · refine g_iload_n C dX1_dayMore_14 rfl rfl ?_
      refine g_iload_n C dX1_dayMore_15 rfl rfl ?_
      refine g_ishr C dX1_dayMore_16 ?_
      refine g_iconst (v := (1 : Int32)) C dX1_dayMore_17 (by decide) ?_
      refine g_iand C dX1_dayMore_18 ?_
      refine g_if_eq (tgt := 42) C dX1_dayMore_19 (by decide) h (fun h => ?_) (fun h => ?_)
      · refine g_iinc (w := (1 : Int32)) C dX1_dayMore_42 rfl (by decide) rfl ?_
        refine g_goto (tgt := 4) C dX1_dayMore_45 (by decide) ?_
        exact g_sub (ih h) ⟨rfl, rfl, rfl, rfl, trivial⟩
      · refine g_iload_n C dX1_dayMore_22 rfl rfl ?_
        refine g_iconst (v := (1 : Int32)) C dX1_dayMore_23 (by decide) ?_
        refine g_aload_n C dX1_dayMore_24 rfl rfl ?_
        refine get_X1_37 C dX1_dayMore_25 hi0 ?_
        refine g_iload_n C dX1_dayMore_28 rfl rfl ?_
        obtain ⟨hb1, h⟩ := of_ite h
        refine ld_17 (j := _) C dX1_dayMore_29 (Nat.lt_of_lt_of_le hi0 (by decide : cnt 8 ≤ cnt 17)) hb1 rfl ?_
        refine g_ishl C dX1_dayMore_30 ?_
        refine g_iconst (v := (1 : Int32)) C dX1_dayMore_31 (by decide) ?_
        refine g_aload_n C dX1_dayMore_32 rfl rfl ?_
        refine get_X1_40 C dX1_dayMore_33 hi0 ?_
        refine g_iload_n C dX1_dayMore_36 rfl rfl ?_
        obtain ⟨hb2, h⟩ := of_ite h
        refine ld_18 (j := _) C dX1_dayMore_37 (Nat.lt_of_lt_of_le hi0 (by decide : cnt 8 ≤ cnt 18)) hb2 rfl ?_
        refine g_ishl C dX1_dayMore_38 ?_
        refine g_ior C dX1_dayMore_39 ?_
        refine g_ior C dX1_dayMore_40 ?_
        refine g_istore_n C dX1_dayMore_41 rfl rfl ?_
        refine g_iinc (w := (1 : Int32)) C dX1_dayMore_42 rfl (by decide) rfl ?_
        refine g_goto (tgt := 4) C dX1_dayMore_45 (by decide) ?_
        exact g_sub (ih h) ⟨rfl, rfl, rfl, rfl, trivial⟩
set_option maxRecDepth 20000 in
set_option maxHeartbeats 2000000 in
theorem c_X1_dayMore (E : wEnv) {i0 : Nat} {x1 : Int32} {M : Mem} {q : Int32} (hi0 : i0 < cnt 8) (h : f_X1_dayMore i0 x1 M = some q) : Mt E yX1_dayMore cX1_dayMore 4 (some .int) 0 [.ref (ad E 8 i0), .int x1] M (some (.int q)) M := by
  unfold f_X1_dayMore at h
  refine mt_intro (own := RX1) (lv0 := [(0, .ref (ad E 8 i0)), (1, .int x1)]) (by decide) rfl rfl rfl (fun Y C R => ?_)
  refine g_iload_n C dX1_dayMore_0 rfl rfl ?_
  refine g_istore_n C dX1_dayMore_1 rfl rfl ?_
  refine g_iconst (v := (0 : Int32)) C dX1_dayMore_2 (by decide) ?_
  refine g_istore_n C dX1_dayMore_3 rfl rfl ?_
  exact g_sub (b_X1_dayMore_4 C R hi0 _ h) ⟨rfl, rfl, rfl, rfl, trivial⟩
noncomputable def f_X1_allBehind_19 (k55 : Int32 → Option Int32) (i0 : Nat) (x1 : Int32) (x3 : Int32) (M : Mem) : Nat → Int32 → Int32 → Option Int32
  | 0, _, _ => none
  | n + 1, x2, x4 =>
  if x4 < (M.1 9 i0 0) then
    if ((x2 >>> (x4 &&& 31)) &&& (1 : Int32)) = 0 then
      f_X1_allBehind_19 k55 i0 x1 x3 M n x2 (x4 + (1 : Int32))
    else
      if inb x4 10 = true then
       let x2_3 := (x2 ||| (M.1 15 i0 x4.toNatClampNeg))
       f_X1_allBehind_19 k55 i0 x1 x3 M n x2_3 (x4 + (1 : Int32))
      else none
  else
    k55 x2
noncomputable def f_X1_allBehind_6 (i0 : Nat) (x1 : Int32) (M : Mem) : Nat → Int32 → Int32 → Option Int32
  | 0, _, _ => none
  | n + 1, x2, x3 =>
  if x3 < (M.1 9 i0 0) then
    f_X1_allBehind_19 (fun x2_4 =>
        f_X1_allBehind_6 i0 x1 M n x2_4 (x3 + (1 : Int32))) i0 x1 x3 M FU x2 (0 : Int32)
  else
    some (x2 &&& (((1 : Int32) <<< (x1 &&& 31)) ^^^ (-1 : Int32)))
noncomputable def f_X1_allBehind (i0 : Nat) (x1 : Int32) (M : Mem) : Option Int32 :=
  let x2_1 := ((1 : Int32) <<< (x1 &&& 31))
  f_X1_allBehind_6 i0 x1 M FU x2_1 (0 : Int32)
set_option maxRecDepth 20000 in
set_option maxHeartbeats 2000000 in
theorem b_X1_allBehind_19 {E : wEnv} {Y : YT} (C : Cx E Y cX1_allBehind 5 RX1 0) {q : Int32} {M : Mem} (R : Rx E Y (some .int) (some (.int q)) M) {i0 : Nat} {x1 : Int32} {x3 : Int32} (hi0 : i0 < cnt 8) {k55 : Int32 → Option Int32} (hk55 : ∀ {x2 : Int32} , k55 x2 = some q → G E Y 5 M 55 [(0, .ref (ad E 8 i0)), (1, .int x1), (2, .int x2), (3, .int x3)] []) (n : Nat) : ∀ {x2 : Int32} {x4 : Int32} (_ : f_X1_allBehind_19 k55 i0 x1 x3 M n x2 x4 = some q), G E Y 5 M 19 [(0, .ref (ad E 8 i0)), (1, .int x1), (2, .int x2), (3, .int x3), (4, .int x4)] [] := by
  induction n with
  | zero =>
    intro x2 x4 h
    cases (show none = some q from h)
  | succ n ih =>
    intro x2 x4 h
    rw [f_X1_allBehind_19] at h
    refine g_iload C dX1_allBehind_19 rfl ?_
    refine g_aload_n C dX1_allBehind_21 rfl rfl ?_
    refine get_X1_9 C dX1_allBehind_22 hi0 ?_
    refine g_iconst (v := (0 : Int32)) C dX1_allBehind_25 (by decide) ?_
    refine ld_9 (j := 0) C dX1_allBehind_26 (Nat.lt_of_lt_of_le hi0 (by decide : cnt 8 ≤ cnt 9)) (by decide) rfl ?_
    refine g_icmp_ge (tgt := 55) C dX1_allBehind_27 (by decide) h (fun h => ?_) (fun h => ?_)
    · exact g_sub (hk55 h) ⟨rfl, rfl, rfl, rfl, trivial⟩
    · refine g_iload_n C dX1_allBehind_30 rfl rfl ?_
      refine g_iload C dX1_allBehind_31 rfl ?_
      refine g_ishr C dX1_allBehind_33 ?_
      refine g_iconst (v := (1 : Int32)) C dX1_allBehind_34 (by decide) ?_
      refine g_iand C dX1_allBehind_35 ?_
      refine g_if_eq (tgt := 49) C dX1_allBehind_36 (by decide) h (fun h => ?_) (fun h => ?_)
      · refine g_iinc (w := (1 : Int32)) C dX1_allBehind_49 rfl (by decide) rfl ?_
        refine g_goto (tgt := 19) C dX1_allBehind_52 (by decide) ?_
        exact g_sub (ih h) ⟨rfl, rfl, rfl, rfl, rfl, trivial⟩
      · refine g_iload_n C dX1_allBehind_39 rfl rfl ?_
        refine g_aload_n C dX1_allBehind_40 rfl rfl ?_
        refine get_X1_31 C dX1_allBehind_41 hi0 ?_
        refine g_iload C dX1_allBehind_44 rfl ?_
        obtain ⟨hb2, h⟩ := of_ite h
        refine ld_15 (j := _) C dX1_allBehind_46 (Nat.lt_of_lt_of_le hi0 (by decide : cnt 8 ≤ cnt 15)) hb2 rfl ?_
        refine g_ior C dX1_allBehind_47 ?_
        refine g_istore_n C dX1_allBehind_48 rfl rfl ?_
        refine g_iinc (w := (1 : Int32)) C dX1_allBehind_49 rfl (by decide) rfl ?_
        refine g_goto (tgt := 19) C dX1_allBehind_52 (by decide) ?_
        exact g_sub (ih h) ⟨rfl, rfl, rfl, rfl, rfl, trivial⟩
set_option maxRecDepth 20000 in
set_option maxHeartbeats 2000000 in
theorem b_X1_allBehind_6 {E : wEnv} {Y : YT} (C : Cx E Y cX1_allBehind 5 RX1 0) {q : Int32} {M : Mem} (R : Rx E Y (some .int) (some (.int q)) M) {i0 : Nat} {x1 : Int32} (hi0 : i0 < cnt 8) (n : Nat) : ∀ {x2 : Int32} {x3 : Int32} (_ : f_X1_allBehind_6 i0 x1 M n x2 x3 = some q), G E Y 5 M 6 [(0, .ref (ad E 8 i0)), (1, .int x1), (2, .int x2), (3, .int x3)] [] := by
  induction n with
  | zero =>
    intro x2 x3 h
    cases (show none = some q from h)
  | succ n ih =>
    intro x2 x3 h
    rw [f_X1_allBehind_6] at h
    refine g_iload_n C dX1_allBehind_6 rfl rfl ?_
    refine g_aload_n C dX1_allBehind_7 rfl rfl ?_
    refine get_X1_9 C dX1_allBehind_8 hi0 ?_
    refine g_iconst (v := (0 : Int32)) C dX1_allBehind_11 (by decide) ?_
    refine ld_9 (j := 0) C dX1_allBehind_12 (Nat.lt_of_lt_of_le hi0 (by decide : cnt 8 ≤ cnt 9)) (by decide) rfl ?_
    refine g_icmp_ge (tgt := 61) C dX1_allBehind_13 (by decide) h (fun h => ?_) (fun h => ?_)
    · refine g_iload_n C dX1_allBehind_61 rfl rfl ?_
      refine g_iconst (v := (1 : Int32)) C dX1_allBehind_62 (by decide) ?_
      refine g_iload_n C dX1_allBehind_63 rfl rfl ?_
      refine g_ishl C dX1_allBehind_64 ?_
      refine g_iconst (v := (-1 : Int32)) C dX1_allBehind_65 (by decide) ?_
      refine g_ixor C dX1_allBehind_66 ?_
      refine g_iand C dX1_allBehind_67 ?_
      exact g_iret C R dX1_allBehind_68 (Option.some.inj h) rfl
    · refine g_iconst (v := (0 : Int32)) C dX1_allBehind_16 (by decide) ?_
      refine g_istore C dX1_allBehind_17 rfl ?_
      refine g_sub (b_X1_allBehind_19 C R hi0 ?_ _ h) ⟨rfl, rfl, rfl, rfl, rfl, trivial⟩
      · clear h
        intro x2_4 h
        refine g_iinc (w := (1 : Int32)) C dX1_allBehind_55 rfl (by decide) rfl ?_
        refine g_goto (tgt := 6) C dX1_allBehind_58 (by decide) ?_
        exact g_sub (ih h) ⟨rfl, rfl, rfl, rfl, trivial⟩
set_option maxRecDepth 20000 in
set_option maxHeartbeats 2000000 in
theorem c_X1_allBehind (E : wEnv) {i0 : Nat} {x1 : Int32} {M : Mem} {q : Int32} (hi0 : i0 < cnt 8) (h : f_X1_allBehind i0 x1 M = some q) : Mt E yX1_allBehind cX1_allBehind 5 (some .int) 0 [.ref (ad E 8 i0), .int x1] M (some (.int q)) M := by
  unfold f_X1_allBehind at h
  refine mt_intro (own := RX1) (lv0 := [(0, .ref (ad E 8 i0)), (1, .int x1)]) (by decide) rfl rfl rfl (fun Y C R => ?_)
  refine g_iconst (v := (1 : Int32)) C dX1_allBehind_0 (by decide) ?_
  refine g_iload_n C dX1_allBehind_1 rfl rfl ?_
  refine g_ishl C dX1_allBehind_2 ?_
  refine g_istore_n C dX1_allBehind_3 rfl rfl ?_
  refine g_iconst (v := (0 : Int32)) C dX1_allBehind_4 (by decide) ?_
  refine g_istore_n C dX1_allBehind_5 rfl rfl ?_
  exact g_sub (b_X1_allBehind_6 C R hi0 _ h) ⟨rfl, rfl, rfl, rfl, trivial⟩
noncomputable def f_X1_priceOf_4 (i0 : Nat) (x1 : Int32) (M : Mem) : Nat → Int32 → Int32 → Option Int32
  | 0, _, _ => none
  | n + 1, x2, x3 =>
  if x3 < (M.1 9 i0 0) then
    if ((x1 >>> (x3 &&& 31)) &&& (1 : Int32)) = 0 then
      f_X1_priceOf_4 i0 x1 M n x2 (x3 + (1 : Int32))
    else
      if inb x3 10 = true then
       let x2_2 := (x2 + (M.1 13 i0 x3.toNatClampNeg))
       f_X1_priceOf_4 i0 x1 M n x2_2 (x3 + (1 : Int32))
      else none
  else
    some x2
noncomputable def f_X1_priceOf (i0 : Nat) (x1 : Int32) (M : Mem) : Option Int32 :=
  f_X1_priceOf_4 i0 x1 M FU (0 : Int32) (0 : Int32)
set_option maxRecDepth 20000 in
set_option maxHeartbeats 2000000 in
theorem b_X1_priceOf_4 {E : wEnv} {Y : YT} (C : Cx E Y cX1_priceOf 4 RX1 0) {q : Int32} {M : Mem} (R : Rx E Y (some .int) (some (.int q)) M) {i0 : Nat} {x1 : Int32} (hi0 : i0 < cnt 8) (n : Nat) : ∀ {x2 : Int32} {x3 : Int32} (_ : f_X1_priceOf_4 i0 x1 M n x2 x3 = some q), G E Y 4 M 4 [(0, .ref (ad E 8 i0)), (1, .int x1), (2, .int x2), (3, .int x3)] [] := by
  induction n with
  | zero =>
    intro x2 x3 h
    cases (show none = some q from h)
  | succ n ih =>
    intro x2 x3 h
    rw [f_X1_priceOf_4] at h
    refine g_iload_n C dX1_priceOf_4 rfl rfl ?_
    refine g_aload_n C dX1_priceOf_5 rfl rfl ?_
    refine get_X1_9 C dX1_priceOf_6 hi0 ?_
    refine g_iconst (v := (0 : Int32)) C dX1_priceOf_9 (by decide) ?_
    refine ld_9 (j := 0) C dX1_priceOf_10 (Nat.lt_of_lt_of_le hi0 (by decide : cnt 8 ≤ cnt 9)) (by decide) rfl ?_
    refine g_icmp_ge (tgt := 37) C dX1_priceOf_11 (by decide) h (fun h => ?_) (fun h => ?_)
    · refine g_iload_n C dX1_priceOf_37 rfl rfl ?_
      exact g_iret C R dX1_priceOf_38 (Option.some.inj h) rfl
    · refine g_iload_n C dX1_priceOf_14 rfl rfl ?_
      refine g_iload_n C dX1_priceOf_15 rfl rfl ?_
      refine g_ishr C dX1_priceOf_16 ?_
      refine g_iconst (v := (1 : Int32)) C dX1_priceOf_17 (by decide) ?_
      refine g_iand C dX1_priceOf_18 ?_
      refine g_if_eq (tgt := 31) C dX1_priceOf_19 (by decide) h (fun h => ?_) (fun h => ?_)
      · refine g_iinc (w := (1 : Int32)) C dX1_priceOf_31 rfl (by decide) rfl ?_
        refine g_goto (tgt := 4) C dX1_priceOf_34 (by decide) ?_
        exact g_sub (ih h) ⟨rfl, rfl, rfl, rfl, trivial⟩
      · refine g_iload_n C dX1_priceOf_22 rfl rfl ?_
        refine g_aload_n C dX1_priceOf_23 rfl rfl ?_
        refine get_X1_25 C dX1_priceOf_24 hi0 ?_
        refine g_iload_n C dX1_priceOf_27 rfl rfl ?_
        obtain ⟨hb1, h⟩ := of_ite h
        refine ld_13 (j := _) C dX1_priceOf_28 (Nat.lt_of_lt_of_le hi0 (by decide : cnt 8 ≤ cnt 13)) hb1 rfl ?_
        refine g_iadd C dX1_priceOf_29 ?_
        refine g_istore_n C dX1_priceOf_30 rfl rfl ?_
        refine g_iinc (w := (1 : Int32)) C dX1_priceOf_31 rfl (by decide) rfl ?_
        refine g_goto (tgt := 4) C dX1_priceOf_34 (by decide) ?_
        exact g_sub (ih h) ⟨rfl, rfl, rfl, rfl, trivial⟩
set_option maxRecDepth 20000 in
set_option maxHeartbeats 2000000 in
theorem c_X1_priceOf (E : wEnv) {i0 : Nat} {x1 : Int32} {M : Mem} {q : Int32} (hi0 : i0 < cnt 8) (h : f_X1_priceOf i0 x1 M = some q) : Mt E yX1_priceOf cX1_priceOf 4 (some .int) 0 [.ref (ad E 8 i0), .int x1] M (some (.int q)) M := by
  unfold f_X1_priceOf at h
  refine mt_intro (own := RX1) (lv0 := [(0, .ref (ad E 8 i0)), (1, .int x1)]) (by decide) rfl rfl rfl (fun Y C R => ?_)
  refine g_iconst (v := (0 : Int32)) C dX1_priceOf_0 (by decide) ?_
  refine g_istore_n C dX1_priceOf_1 rfl rfl ?_
  refine g_iconst (v := (0 : Int32)) C dX1_priceOf_2 (by decide) ?_
  refine g_istore_n C dX1_priceOf_3 rfl rfl ?_
  exact g_sub (b_X1_priceOf_4 C R hi0 _ h) ⟨rfl, rfl, rfl, rfl, trivial⟩
noncomputable def f_X5_lookAtWord_120 : Nat → Int32 → Mem → Option Mem
  | 0, _, _ => none
  | n + 1, x1, M =>
  if x1 < (30 : Int32) then
    if (M.1 30 0 7) = (-1 : Int32) then
      if inb x1 30 = true then
       if (lg_cmp (M.2 32 0 x1.toNatClampNeg) (M.2 30 0 8)) = 0 then
         let M3 := sR M 30 0 (upd (M.1 30 0) 7 x1)
         f_X5_lookAtWord_120 n (x1 + (1 : Int32)) M3
       else
         f_X5_lookAtWord_120 n (x1 + (1 : Int32)) M
      else none
    else
      some M
  else
    some M
noncomputable def f_X5_lookAtWord_5 : Nat → Mem → Option Mem
  | 0, _ => none
  | n + 1, M =>
  if (M.1 30 0 4) < (M.1 30 0 3) then
    if inb (M.1 30 0 4) 900 = true then
     if (M.1 31 0 ((M.1 30 0 4).toNatClampNeg)) < (97 : Int32) then
       if (8 : Int32) < ((M.1 30 0 4) - (M.1 30 0 5)) then
         let M6 := sL M 30 0 (vp_updL (M.2 30 0) 8 (0 : Int64))
         f_X5_lookAtWord_120 FU (0 : Int32) M6
       else
         f_X5_lookAtWord_120 FU (0 : Int32) M
     else
       if inb (M.1 30 0 4) 900 = true then
        if (122 : Int32) < (M.1 31 0 ((M.1 30 0 4).toNatClampNeg)) then
          if (8 : Int32) < ((M.1 30 0 4) - (M.1 30 0 5)) then
            let M8 := sL M 30 0 (vp_updL (M.2 30 0) 8 (0 : Int64))
            f_X5_lookAtWord_120 FU (0 : Int32) M8
          else
            f_X5_lookAtWord_120 FU (0 : Int32) M
        else
          if ((M.1 30 0 4) - (M.1 30 0 5)) < (8 : Int32) then
            if inb (M.1 30 0 4) 900 = true then
             let M11 := sL M 30 0 (vp_updL (M.2 30 0) 8 (((M.2 30 0 8) * (32 : Int64)) + (((M.1 31 0 ((M.1 30 0 4).toNatClampNeg)) - (97 : Int32)) + (1 : Int32)).toInt64))
             let M12 := sR M11 30 0 (upd (M11.1 30 0) 4 ((M11.1 30 0 4) + (1 : Int32)))
             f_X5_lookAtWord_5 n M12
            else none
          else
            let M9 := sR M 30 0 (upd (M.1 30 0) 4 ((M.1 30 0 4) + (1 : Int32)))
            f_X5_lookAtWord_5 n M9
       else none
    else none
  else
    if (8 : Int32) < ((M.1 30 0 4) - (M.1 30 0 5)) then
      let M4 := sL M 30 0 (vp_updL (M.2 30 0) 8 (0 : Int64))
      f_X5_lookAtWord_120 FU (0 : Int32) M4
    else
      f_X5_lookAtWord_120 FU (0 : Int32) M
noncomputable def f_X5_lookAtWord (M : Mem) : Option Mem :=
  let M1 := sR M 30 0 (upd (M.1 30 0) 6 (1 : Int32))
  f_X5_lookAtWord_5 FU M1
set_option maxRecDepth 20000 in
set_option maxHeartbeats 2000000 in
theorem b_X5_lookAtWord_120 {E : wEnv} {Y : YT} (C : Cx E Y cX5_lookAtWord 2 RX5 0) {q : Mem} (R : Rx E Y none none q) (n : Nat) : ∀ {x1 : Int32} {M : Mem} (_ : f_X5_lookAtWord_120 n x1 M = some q), G E Y 2 M 120 [(0, .ref (ad E 30 0)), (1, .int x1)] [] := by
  induction n with
  | zero =>
    intro x1 M h
    cases (show none = some q from h)
  | succ n ih =>
    intro x1 M h
    rw [f_X5_lookAtWord_120] at h
    refine g_iload_n C dX5_lookAtWord_120 rfl rfl ?_
    refine g_bipush (v := (30 : Int32)) C dX5_lookAtWord_121 (by decide) ?_
    refine g_icmp_ge (tgt := 159) C dX5_lookAtWord_123 (by decide) h (fun h => ?_) (fun h => ?_)
    · exact g_vret C R dX5_lookAtWord_159 (Option.some.inj h)
    · refine g_aload_n C dX5_lookAtWord_126 rfl rfl ?_
      refine get_X5_35 C dX5_lookAtWord_127 (by decide) ?_
      refine g_iconst (v := (-1 : Int32)) C dX5_lookAtWord_130 (by decide) ?_
      refine g_icmp_ne (tgt := 159) C dX5_lookAtWord_131 (by decide) h (fun h => ?_) (fun h => ?_)
      · exact g_vret C R dX5_lookAtWord_159 (Option.some.inj h)
      · refine g_aload_n C dX5_lookAtWord_134 rfl rfl ?_
        refine get_X5_15 C dX5_lookAtWord_135 (by decide) ?_
        refine g_iload_n C dX5_lookAtWord_138 rfl rfl ?_
        obtain ⟨hb2, h⟩ := of_ite h
        refine ld_32 (j := _) C dX5_lookAtWord_139 (by decide) hb2 rfl ?_
        refine g_aload_n C dX5_lookAtWord_140 rfl rfl ?_
        refine get_X5_38 C dX5_lookAtWord_141 (by decide) ?_
        refine g_lcmp C dX5_lookAtWord_144 ?_
        refine g_if_ne (tgt := 153) C dX5_lookAtWord_145 (by decide) h (fun h => ?_) (fun h => ?_)
        · refine g_iinc (w := (1 : Int32)) C dX5_lookAtWord_153 rfl (by decide) rfl ?_
          refine g_goto (tgt := 120) C dX5_lookAtWord_156 (by decide) ?_
          exact g_sub (ih h) ⟨rfl, rfl, trivial⟩
        · refine g_aload_n C dX5_lookAtWord_148 rfl rfl ?_
          refine g_iload_n C dX5_lookAtWord_149 rfl rfl ?_
          refine put_X5_35 C dX5_lookAtWord_150 (by decide) ?_
          refine g_iinc (w := (1 : Int32)) C dX5_lookAtWord_153 rfl (by decide) rfl ?_
          refine g_goto (tgt := 120) C dX5_lookAtWord_156 (by decide) ?_
          exact g_sub (ih h) ⟨rfl, rfl, trivial⟩
set_option maxRecDepth 20000 in
set_option maxHeartbeats 2000000 in
theorem b_X5_lookAtWord_5 {E : wEnv} {Y : YT} (C : Cx E Y cX5_lookAtWord 2 RX5 0) {q : Mem} (R : Rx E Y none none q) (n : Nat) : ∀ {M : Mem} (_ : f_X5_lookAtWord_5 n M = some q), G E Y 2 M 5 [(0, .ref (ad E 30 0))] [] := by
  induction n with
  | zero =>
    intro M h
    cases (show none = some q from h)
  | succ n ih =>
    intro M h
    rw [f_X5_lookAtWord_5] at h
    refine g_aload_n C dX5_lookAtWord_5 rfl rfl ?_
    refine get_X5_26 C dX5_lookAtWord_6 (by decide) ?_
    refine g_aload_n C dX5_lookAtWord_9 rfl rfl ?_
    refine get_X5_23 C dX5_lookAtWord_10 (by decide) ?_
    refine g_icmp_ge (tgt := 99) C dX5_lookAtWord_13 (by decide) h (fun h => ?_) (fun h => ?_)
    · refine g_aload_n C dX5_lookAtWord_99 rfl rfl ?_
      refine get_X5_26 C dX5_lookAtWord_100 (by decide) ?_
      refine g_aload_n C dX5_lookAtWord_103 rfl rfl ?_
      refine get_X5_29 C dX5_lookAtWord_104 (by decide) ?_
      refine g_isub C dX5_lookAtWord_107 ?_
      refine g_bipush (v := (8 : Int32)) C dX5_lookAtWord_108 (by decide) ?_
      refine g_icmp_le (tgt := 118) C dX5_lookAtWord_110 (by decide) h (fun h => ?_) (fun h => ?_)
      · refine g_iconst (v := (0 : Int32)) C dX5_lookAtWord_118 (by decide) ?_
        refine g_istore_n C dX5_lookAtWord_119 rfl rfl ?_
        exact g_sub (b_X5_lookAtWord_120 C R _ h) ⟨rfl, rfl, trivial⟩
      · refine g_aload_n C dX5_lookAtWord_113 rfl rfl ?_
        refine g_lconst (v := (0 : Int64)) C dX5_lookAtWord_114 (by decide) ?_
        refine put_X5_38 C dX5_lookAtWord_115 (by decide) ?_
        refine g_iconst (v := (0 : Int32)) C dX5_lookAtWord_118 (by decide) ?_
        refine g_istore_n C dX5_lookAtWord_119 rfl rfl ?_
        exact g_sub (b_X5_lookAtWord_120 C R _ h) ⟨rfl, rfl, trivial⟩
    · refine g_aload_n C dX5_lookAtWord_16 rfl rfl ?_
      refine get_X5_9 C dX5_lookAtWord_17 (by decide) ?_
      refine g_aload_n C dX5_lookAtWord_20 rfl rfl ?_
      refine get_X5_26 C dX5_lookAtWord_21 (by decide) ?_
      obtain ⟨hb5, h⟩ := of_ite h
      refine ld_31 (j := _) C dX5_lookAtWord_24 (by decide) hb5 rfl ?_
      refine g_bipush (v := (97 : Int32)) C dX5_lookAtWord_25 (by decide) ?_
      refine g_icmp_lt (tgt := 99) C dX5_lookAtWord_27 (by decide) h (fun h => ?_) (fun h => ?_)
      · refine g_aload_n C dX5_lookAtWord_99 rfl rfl ?_
        refine get_X5_26 C dX5_lookAtWord_100 (by decide) ?_
        refine g_aload_n C dX5_lookAtWord_103 rfl rfl ?_
        refine get_X5_29 C dX5_lookAtWord_104 (by decide) ?_
        refine g_isub C dX5_lookAtWord_107 ?_
        refine g_bipush (v := (8 : Int32)) C dX5_lookAtWord_108 (by decide) ?_
        refine g_icmp_le (tgt := 118) C dX5_lookAtWord_110 (by decide) h (fun h => ?_) (fun h => ?_)
        · refine g_iconst (v := (0 : Int32)) C dX5_lookAtWord_118 (by decide) ?_
          refine g_istore_n C dX5_lookAtWord_119 rfl rfl ?_
          exact g_sub (b_X5_lookAtWord_120 C R _ h) ⟨rfl, rfl, trivial⟩
        · refine g_aload_n C dX5_lookAtWord_113 rfl rfl ?_
          refine g_lconst (v := (0 : Int64)) C dX5_lookAtWord_114 (by decide) ?_
          refine put_X5_38 C dX5_lookAtWord_115 (by decide) ?_
          refine g_iconst (v := (0 : Int32)) C dX5_lookAtWord_118 (by decide) ?_
          refine g_istore_n C dX5_lookAtWord_119 rfl rfl ?_
          exact g_sub (b_X5_lookAtWord_120 C R _ h) ⟨rfl, rfl, trivial⟩
      · refine g_aload_n C dX5_lookAtWord_30 rfl rfl ?_
        refine get_X5_9 C dX5_lookAtWord_31 (by decide) ?_
        refine g_aload_n C dX5_lookAtWord_34 rfl rfl ?_
        refine get_X5_26 C dX5_lookAtWord_35 (by decide) ?_
        obtain ⟨hb7, h⟩ := of_ite h
        refine ld_31 (j := _) C dX5_lookAtWord_38 (by decide) hb7 rfl ?_
        refine g_bipush (v := (122 : Int32)) C dX5_lookAtWord_39 (by decide) ?_
        refine g_icmp_gt (tgt := 99) C dX5_lookAtWord_41 (by decide) h (fun h => ?_) (fun h => ?_)
        · refine g_aload_n C dX5_lookAtWord_99 rfl rfl ?_
          refine get_X5_26 C dX5_lookAtWord_100 (by decide) ?_
          refine g_aload_n C dX5_lookAtWord_103 rfl rfl ?_
          refine get_X5_29 C dX5_lookAtWord_104 (by decide) ?_
          refine g_isub C dX5_lookAtWord_107 ?_
          refine g_bipush (v := (8 : Int32)) C dX5_lookAtWord_108 (by decide) ?_
          refine g_icmp_le (tgt := 118) C dX5_lookAtWord_110 (by decide) h (fun h => ?_) (fun h => ?_)
          · refine g_iconst (v := (0 : Int32)) C dX5_lookAtWord_118 (by decide) ?_
            refine g_istore_n C dX5_lookAtWord_119 rfl rfl ?_
            exact g_sub (b_X5_lookAtWord_120 C R _ h) ⟨rfl, rfl, trivial⟩
          · refine g_aload_n C dX5_lookAtWord_113 rfl rfl ?_
            refine g_lconst (v := (0 : Int64)) C dX5_lookAtWord_114 (by decide) ?_
            refine put_X5_38 C dX5_lookAtWord_115 (by decide) ?_
            refine g_iconst (v := (0 : Int32)) C dX5_lookAtWord_118 (by decide) ?_
            refine g_istore_n C dX5_lookAtWord_119 rfl rfl ?_
            exact g_sub (b_X5_lookAtWord_120 C R _ h) ⟨rfl, rfl, trivial⟩
        · refine g_aload_n C dX5_lookAtWord_44 rfl rfl ?_
          refine get_X5_26 C dX5_lookAtWord_45 (by decide) ?_
          refine g_aload_n C dX5_lookAtWord_48 rfl rfl ?_
          refine get_X5_29 C dX5_lookAtWord_49 (by decide) ?_
          refine g_isub C dX5_lookAtWord_52 ?_
          refine g_bipush (v := (8 : Int32)) C dX5_lookAtWord_53 (by decide) ?_
          refine g_icmp_ge (tgt := 86) C dX5_lookAtWord_55 (by decide) h (fun h => ?_) (fun h => ?_)
          · refine g_aload_n C dX5_lookAtWord_86 rfl rfl ?_
            refine g_dup C dX5_lookAtWord_87 rfl ?_
            refine get_X5_26 C dX5_lookAtWord_88 (by decide) ?_
            refine g_iconst (v := (1 : Int32)) C dX5_lookAtWord_91 (by decide) ?_
            refine g_iadd C dX5_lookAtWord_92 ?_
            refine put_X5_26 C dX5_lookAtWord_93 (by decide) ?_
            refine g_goto (tgt := 5) C dX5_lookAtWord_96 (by decide) ?_
            exact g_sub (ih h) ⟨rfl, trivial⟩
          · refine g_aload_n C dX5_lookAtWord_58 rfl rfl ?_
            refine g_aload_n C dX5_lookAtWord_59 rfl rfl ?_
            refine get_X5_38 C dX5_lookAtWord_60 (by decide) ?_
            refine g_ldc2 C dX5_lookAtWord_63 qc_X5_62 ?_
            refine g_lmul C dX5_lookAtWord_66 ?_
            refine g_aload_n C dX5_lookAtWord_67 rfl rfl ?_
            refine get_X5_9 C dX5_lookAtWord_68 (by decide) ?_
            refine g_aload_n C dX5_lookAtWord_71 rfl rfl ?_
            refine get_X5_26 C dX5_lookAtWord_72 (by decide) ?_
            obtain ⟨hb10, h⟩ := of_ite h
            refine ld_31 (j := _) C dX5_lookAtWord_75 (by decide) hb10 rfl ?_
            refine g_bipush (v := (97 : Int32)) C dX5_lookAtWord_76 (by decide) ?_
            refine g_isub C dX5_lookAtWord_78 ?_
            refine g_iconst (v := (1 : Int32)) C dX5_lookAtWord_79 (by decide) ?_
            refine g_iadd C dX5_lookAtWord_80 ?_
            refine g_i2l C dX5_lookAtWord_81 ?_
            refine g_ladd C dX5_lookAtWord_82 ?_
            refine put_X5_38 C dX5_lookAtWord_83 (by decide) ?_
            refine g_aload_n C dX5_lookAtWord_86 rfl rfl ?_
            refine g_dup C dX5_lookAtWord_87 rfl ?_
            refine get_X5_26 C dX5_lookAtWord_88 (by decide) ?_
            refine g_iconst (v := (1 : Int32)) C dX5_lookAtWord_91 (by decide) ?_
            refine g_iadd C dX5_lookAtWord_92 ?_
            refine put_X5_26 C dX5_lookAtWord_93 (by decide) ?_
            refine g_goto (tgt := 5) C dX5_lookAtWord_96 (by decide) ?_
            exact g_sub (ih h) ⟨rfl, trivial⟩
set_option maxRecDepth 20000 in
set_option maxHeartbeats 2000000 in
theorem c_X5_lookAtWord (E : wEnv) {M : Mem} {q : Mem} (h : f_X5_lookAtWord M = some q) : Mt E yX5_lookAtWord cX5_lookAtWord 2 none 0 [.ref (ad E 30 0)] M none q := by
  unfold f_X5_lookAtWord at h
  refine mt_intro (own := RX5) (lv0 := [(0, .ref (ad E 30 0))]) (by decide) rfl rfl rfl (fun Y C R => ?_)
  refine g_aload_n C dX5_lookAtWord_0 rfl rfl ?_
  refine g_iconst (v := (1 : Int32)) C dX5_lookAtWord_1 (by decide) ?_
  refine put_X5_32 C dX5_lookAtWord_2 (by decide) ?_
  exact g_sub (b_X5_lookAtWord_5 C R _ h) ⟨rfl, trivial⟩
noncomputable def f_X5_lookAtNumber_10 : Nat → Mem → Option Mem
  | 0, _ => none
  | n + 1, M =>
  if (M.1 30 0 4) < (M.1 30 0 3) then
    if inb (M.1 30 0 4) 900 = true then
     if (M.1 31 0 ((M.1 30 0 4).toNatClampNeg)) < (48 : Int32) then
       if (4 : Int32) < ((M.1 30 0 4) - (M.1 30 0 5)) then
         let M5 := sR M 30 0 (upd (M.1 30 0) 6 (4 : Int32))
         some M5
       else
         some M
     else
       if inb (M.1 30 0 4) 900 = true then
        if (57 : Int32) < (M.1 31 0 ((M.1 30 0 4).toNatClampNeg)) then
          if (4 : Int32) < ((M.1 30 0 4) - (M.1 30 0 5)) then
            let M7 := sR M 30 0 (upd (M.1 30 0) 6 (4 : Int32))
            some M7
          else
            some M
        else
          if ((M.1 30 0 4) - (M.1 30 0 5)) < (4 : Int32) then
            if inb (M.1 30 0 4) 900 = true then
             let M10 := sR M 30 0 (upd (M.1 30 0) 7 (((M.1 30 0 7) * (10 : Int32)) + ((M.1 31 0 ((M.1 30 0 4).toNatClampNeg)) - (48 : Int32))))
             let M11 := sR M10 30 0 (upd (M10.1 30 0) 4 ((M10.1 30 0 4) + (1 : Int32)))
             f_X5_lookAtNumber_10 n M11
            else none
          else
            let M8 := sR M 30 0 (upd (M.1 30 0) 4 ((M.1 30 0 4) + (1 : Int32)))
            f_X5_lookAtNumber_10 n M8
       else none
    else none
  else
    if (4 : Int32) < ((M.1 30 0 4) - (M.1 30 0 5)) then
      let M3 := sR M 30 0 (upd (M.1 30 0) 6 (4 : Int32))
      some M3
    else
      some M
noncomputable def f_X5_lookAtNumber (M : Mem) : Option Mem :=
  let M1 := sR M 30 0 (upd (M.1 30 0) 6 (2 : Int32))
  let M2 := sR M1 30 0 (upd (M1.1 30 0) 7 (0 : Int32))
  f_X5_lookAtNumber_10 FU M2
set_option maxRecDepth 20000 in
set_option maxHeartbeats 2000000 in
theorem b_X5_lookAtNumber_10 {E : wEnv} {Y : YT} (C : Cx E Y cX5_lookAtNumber 1 RX5 0) {q : Mem} (R : Rx E Y none none q) (n : Nat) : ∀ {M : Mem} (_ : f_X5_lookAtNumber_10 n M = some q), G E Y 1 M 10 [(0, .ref (ad E 30 0))] [] := by
  induction n with
  | zero =>
    intro M h
    cases (show none = some q from h)
  | succ n ih =>
    intro M h
    rw [f_X5_lookAtNumber_10] at h
    refine g_aload_n C dX5_lookAtNumber_10 rfl rfl ?_
    refine get_X5_26 C dX5_lookAtNumber_11 (by decide) ?_
    refine g_aload_n C dX5_lookAtNumber_14 rfl rfl ?_
    refine get_X5_23 C dX5_lookAtNumber_15 (by decide) ?_
    refine g_icmp_ge (tgt := 99) C dX5_lookAtNumber_18 (by decide) h (fun h => ?_) (fun h => ?_)
    · refine g_aload_n C dX5_lookAtNumber_99 rfl rfl ?_
      refine get_X5_26 C dX5_lookAtNumber_100 (by decide) ?_
      refine g_aload_n C dX5_lookAtNumber_103 rfl rfl ?_
      refine get_X5_29 C dX5_lookAtNumber_104 (by decide) ?_
      refine g_isub C dX5_lookAtNumber_107 ?_
      refine g_iconst (v := (4 : Int32)) C dX5_lookAtNumber_108 (by decide) ?_
      refine g_icmp_le (tgt := 117) C dX5_lookAtNumber_109 (by decide) h (fun h => ?_) (fun h => ?_)
      · exact g_vret C R dX5_lookAtNumber_117 (Option.some.inj h)
      · refine g_aload_n C dX5_lookAtNumber_112 rfl rfl ?_
        refine g_iconst (v := (4 : Int32)) C dX5_lookAtNumber_113 (by decide) ?_
        refine put_X5_32 C dX5_lookAtNumber_114 (by decide) ?_
        exact g_vret C R dX5_lookAtNumber_117 (Option.some.inj h)
    · refine g_aload_n C dX5_lookAtNumber_21 rfl rfl ?_
      refine get_X5_9 C dX5_lookAtNumber_22 (by decide) ?_
      refine g_aload_n C dX5_lookAtNumber_25 rfl rfl ?_
      refine get_X5_26 C dX5_lookAtNumber_26 (by decide) ?_
      obtain ⟨hb4, h⟩ := of_ite h
      refine ld_31 (j := _) C dX5_lookAtNumber_29 (by decide) hb4 rfl ?_
      refine g_bipush (v := (48 : Int32)) C dX5_lookAtNumber_30 (by decide) ?_
      refine g_icmp_lt (tgt := 99) C dX5_lookAtNumber_32 (by decide) h (fun h => ?_) (fun h => ?_)
      · refine g_aload_n C dX5_lookAtNumber_99 rfl rfl ?_
        refine get_X5_26 C dX5_lookAtNumber_100 (by decide) ?_
        refine g_aload_n C dX5_lookAtNumber_103 rfl rfl ?_
        refine get_X5_29 C dX5_lookAtNumber_104 (by decide) ?_
        refine g_isub C dX5_lookAtNumber_107 ?_
        refine g_iconst (v := (4 : Int32)) C dX5_lookAtNumber_108 (by decide) ?_
        refine g_icmp_le (tgt := 117) C dX5_lookAtNumber_109 (by decide) h (fun h => ?_) (fun h => ?_)
        · exact g_vret C R dX5_lookAtNumber_117 (Option.some.inj h)
        · refine g_aload_n C dX5_lookAtNumber_112 rfl rfl ?_
          refine g_iconst (v := (4 : Int32)) C dX5_lookAtNumber_113 (by decide) ?_
          refine put_X5_32 C dX5_lookAtNumber_114 (by decide) ?_
          exact g_vret C R dX5_lookAtNumber_117 (Option.some.inj h)
      · refine g_aload_n C dX5_lookAtNumber_35 rfl rfl ?_
        refine get_X5_9 C dX5_lookAtNumber_36 (by decide) ?_
        refine g_aload_n C dX5_lookAtNumber_39 rfl rfl ?_
        refine get_X5_26 C dX5_lookAtNumber_40 (by decide) ?_
        obtain ⟨hb6, h⟩ := of_ite h
        refine ld_31 (j := _) C dX5_lookAtNumber_43 (by decide) hb6 rfl ?_
        refine g_bipush (v := (57 : Int32)) C dX5_lookAtNumber_44 (by decide) ?_
        refine g_icmp_gt (tgt := 99) C dX5_lookAtNumber_46 (by decide) h (fun h => ?_) (fun h => ?_)
        · refine g_aload_n C dX5_lookAtNumber_99 rfl rfl ?_
          refine get_X5_26 C dX5_lookAtNumber_100 (by decide) ?_
          refine g_aload_n C dX5_lookAtNumber_103 rfl rfl ?_
          refine get_X5_29 C dX5_lookAtNumber_104 (by decide) ?_
          refine g_isub C dX5_lookAtNumber_107 ?_
          refine g_iconst (v := (4 : Int32)) C dX5_lookAtNumber_108 (by decide) ?_
          refine g_icmp_le (tgt := 117) C dX5_lookAtNumber_109 (by decide) h (fun h => ?_) (fun h => ?_)
          · exact g_vret C R dX5_lookAtNumber_117 (Option.some.inj h)
          · refine g_aload_n C dX5_lookAtNumber_112 rfl rfl ?_
            refine g_iconst (v := (4 : Int32)) C dX5_lookAtNumber_113 (by decide) ?_
            refine put_X5_32 C dX5_lookAtNumber_114 (by decide) ?_
            exact g_vret C R dX5_lookAtNumber_117 (Option.some.inj h)
        · refine g_aload_n C dX5_lookAtNumber_49 rfl rfl ?_
          refine get_X5_26 C dX5_lookAtNumber_50 (by decide) ?_
          refine g_aload_n C dX5_lookAtNumber_53 rfl rfl ?_
          refine get_X5_29 C dX5_lookAtNumber_54 (by decide) ?_
          refine g_isub C dX5_lookAtNumber_57 ?_
          refine g_iconst (v := (4 : Int32)) C dX5_lookAtNumber_58 (by decide) ?_
          refine g_icmp_ge (tgt := 86) C dX5_lookAtNumber_59 (by decide) h (fun h => ?_) (fun h => ?_)
          · refine g_aload_n C dX5_lookAtNumber_86 rfl rfl ?_
            refine g_dup C dX5_lookAtNumber_87 rfl ?_
            refine get_X5_26 C dX5_lookAtNumber_88 (by decide) ?_
            refine g_iconst (v := (1 : Int32)) C dX5_lookAtNumber_91 (by decide) ?_
            refine g_iadd C dX5_lookAtNumber_92 ?_
            refine put_X5_26 C dX5_lookAtNumber_93 (by decide) ?_
            refine g_goto (tgt := 10) C dX5_lookAtNumber_96 (by decide) ?_
            exact g_sub (ih h) ⟨rfl, trivial⟩
          · refine g_aload_n C dX5_lookAtNumber_62 rfl rfl ?_
            refine g_aload_n C dX5_lookAtNumber_63 rfl rfl ?_
            refine get_X5_35 C dX5_lookAtNumber_64 (by decide) ?_
            refine g_bipush (v := (10 : Int32)) C dX5_lookAtNumber_67 (by decide) ?_
            refine g_imul C dX5_lookAtNumber_69 ?_
            refine g_aload_n C dX5_lookAtNumber_70 rfl rfl ?_
            refine get_X5_9 C dX5_lookAtNumber_71 (by decide) ?_
            refine g_aload_n C dX5_lookAtNumber_74 rfl rfl ?_
            refine get_X5_26 C dX5_lookAtNumber_75 (by decide) ?_
            obtain ⟨hb9, h⟩ := of_ite h
            refine ld_31 (j := _) C dX5_lookAtNumber_78 (by decide) hb9 rfl ?_
            refine g_bipush (v := (48 : Int32)) C dX5_lookAtNumber_79 (by decide) ?_
            refine g_isub C dX5_lookAtNumber_81 ?_
            refine g_iadd C dX5_lookAtNumber_82 ?_
            refine put_X5_35 C dX5_lookAtNumber_83 (by decide) ?_
            refine g_aload_n C dX5_lookAtNumber_86 rfl rfl ?_
            refine g_dup C dX5_lookAtNumber_87 rfl ?_
            refine get_X5_26 C dX5_lookAtNumber_88 (by decide) ?_
            refine g_iconst (v := (1 : Int32)) C dX5_lookAtNumber_91 (by decide) ?_
            refine g_iadd C dX5_lookAtNumber_92 ?_
            refine put_X5_26 C dX5_lookAtNumber_93 (by decide) ?_
            refine g_goto (tgt := 10) C dX5_lookAtNumber_96 (by decide) ?_
            exact g_sub (ih h) ⟨rfl, trivial⟩
set_option maxRecDepth 20000 in
set_option maxHeartbeats 2000000 in
theorem c_X5_lookAtNumber (E : wEnv) {M : Mem} {q : Mem} (h : f_X5_lookAtNumber M = some q) : Mt E yX5_lookAtNumber cX5_lookAtNumber 1 none 0 [.ref (ad E 30 0)] M none q := by
  unfold f_X5_lookAtNumber at h
  refine mt_intro (own := RX5) (lv0 := [(0, .ref (ad E 30 0))]) (by decide) rfl rfl rfl (fun Y C R => ?_)
  refine g_aload_n C dX5_lookAtNumber_0 rfl rfl ?_
  refine g_iconst (v := (2 : Int32)) C dX5_lookAtNumber_1 (by decide) ?_
  refine put_X5_32 C dX5_lookAtNumber_2 (by decide) ?_
  refine g_aload_n C dX5_lookAtNumber_5 rfl rfl ?_
  refine g_iconst (v := (0 : Int32)) C dX5_lookAtNumber_6 (by decide) ?_
  refine put_X5_35 C dX5_lookAtNumber_7 (by decide) ?_
  exact g_sub (b_X5_lookAtNumber_10 C R _ h) ⟨rfl, trivial⟩
noncomputable def f_X5_lookAtSign (M : Mem) : Option Mem :=
  if inb (M.1 30 0 5) 900 = true then
   let x1_2 := (M.1 31 0 ((M.1 30 0 5).toNatClampNeg))
   if x1_2 = (59 : Int32) then
     let M3 := sR M 30 0 (upd (M.1 30 0) 6 (3 : Int32))
     let M4 := sR M3 30 0 (upd (M3.1 30 0) 7 x1_2)
     let M5 := sR M4 30 0 (upd (M4.1 30 0) 4 ((M4.1 30 0 4) + (1 : Int32)))
     some M5
   else
     if x1_2 = (60 : Int32) then
       let M6 := sR M 30 0 (upd (M.1 30 0) 6 (3 : Int32))
       let M7 := sR M6 30 0 (upd (M6.1 30 0) 7 x1_2)
       let M8 := sR M7 30 0 (upd (M7.1 30 0) 4 ((M7.1 30 0 4) + (1 : Int32)))
       some M8
     else
       if x1_2 = (62 : Int32) then
         let M9 := sR M 30 0 (upd (M.1 30 0) 6 (3 : Int32))
         let M10 := sR M9 30 0 (upd (M9.1 30 0) 7 x1_2)
         let M11 := sR M10 30 0 (upd (M10.1 30 0) 4 ((M10.1 30 0 4) + (1 : Int32)))
         some M11
       else
         if x1_2 = (61 : Int32) then
           let M15 := sR M 30 0 (upd (M.1 30 0) 6 (3 : Int32))
           let M16 := sR M15 30 0 (upd (M15.1 30 0) 7 x1_2)
           let M17 := sR M16 30 0 (upd (M16.1 30 0) 4 ((M16.1 30 0 4) + (1 : Int32)))
           some M17
         else
           let M12 := sR M 30 0 (upd (M.1 30 0) 6 (4 : Int32))
           let M13 := sR M12 30 0 (upd (M12.1 30 0) 7 x1_2)
           let M14 := sR M13 30 0 (upd (M13.1 30 0) 4 ((M13.1 30 0 4) + (1 : Int32)))
           some M14
  else none
set_option maxRecDepth 20000 in
set_option maxHeartbeats 2000000 in
theorem c_X5_lookAtSign (E : wEnv) {M : Mem} {q : Mem} (h : f_X5_lookAtSign M = some q) : Mt E yX5_lookAtSign cX5_lookAtSign 2 none 0 [.ref (ad E 30 0)] M none q := by
  unfold f_X5_lookAtSign at h
  refine mt_intro (own := RX5) (lv0 := [(0, .ref (ad E 30 0))]) (by decide) rfl rfl rfl (fun Y C R => ?_)
  refine g_aload_n C dX5_lookAtSign_0 rfl rfl ?_
  refine get_X5_9 C dX5_lookAtSign_1 (by decide) ?_
  refine g_aload_n C dX5_lookAtSign_4 rfl rfl ?_
  refine get_X5_29 C dX5_lookAtSign_5 (by decide) ?_
  obtain ⟨hb1, h⟩ := of_ite h
  refine ld_31 (j := _) C dX5_lookAtSign_8 (by decide) hb1 rfl ?_
  refine g_istore_n C dX5_lookAtSign_9 rfl rfl ?_
  refine g_aload_n C dX5_lookAtSign_10 rfl rfl ?_
  refine g_iload_n C dX5_lookAtSign_11 rfl rfl ?_
  refine g_bipush (v := (59 : Int32)) C dX5_lookAtSign_12 (by decide) ?_
  refine g_icmp_eq (tgt := 35) C dX5_lookAtSign_14 (by decide) h (fun h => ?_) (fun h => ?_)
  · refine g_iconst (v := (3 : Int32)) C dX5_lookAtSign_35 (by decide) ?_
    refine g_goto (tgt := 40) C dX5_lookAtSign_36 (by decide) ?_
    refine put_X5_32 C dX5_lookAtSign_40 (by decide) ?_
    refine g_aload_n C dX5_lookAtSign_43 rfl rfl ?_
    refine g_iload_n C dX5_lookAtSign_44 rfl rfl ?_
    refine put_X5_35 C dX5_lookAtSign_45 (by decide) ?_
    refine g_aload_n C dX5_lookAtSign_48 rfl rfl ?_
    refine g_dup C dX5_lookAtSign_49 rfl ?_
    refine get_X5_26 C dX5_lookAtSign_50 (by decide) ?_
    refine g_iconst (v := (1 : Int32)) C dX5_lookAtSign_53 (by decide) ?_
    refine g_iadd C dX5_lookAtSign_54 ?_
    refine put_X5_26 C dX5_lookAtSign_55 (by decide) ?_
    exact g_vret C R dX5_lookAtSign_58 (Option.some.inj h)
  · refine g_iload_n C dX5_lookAtSign_17 rfl rfl ?_
    refine g_bipush (v := (60 : Int32)) C dX5_lookAtSign_18 (by decide) ?_
    refine g_icmp_eq (tgt := 35) C dX5_lookAtSign_20 (by decide) h (fun h => ?_) (fun h => ?_)
    · refine g_iconst (v := (3 : Int32)) C dX5_lookAtSign_35 (by decide) ?_
      refine g_goto (tgt := 40) C dX5_lookAtSign_36 (by decide) ?_
      refine put_X5_32 C dX5_lookAtSign_40 (by decide) ?_
      refine g_aload_n C dX5_lookAtSign_43 rfl rfl ?_
      refine g_iload_n C dX5_lookAtSign_44 rfl rfl ?_
      refine put_X5_35 C dX5_lookAtSign_45 (by decide) ?_
      refine g_aload_n C dX5_lookAtSign_48 rfl rfl ?_
      refine g_dup C dX5_lookAtSign_49 rfl ?_
      refine get_X5_26 C dX5_lookAtSign_50 (by decide) ?_
      refine g_iconst (v := (1 : Int32)) C dX5_lookAtSign_53 (by decide) ?_
      refine g_iadd C dX5_lookAtSign_54 ?_
      refine put_X5_26 C dX5_lookAtSign_55 (by decide) ?_
      exact g_vret C R dX5_lookAtSign_58 (Option.some.inj h)
    · refine g_iload_n C dX5_lookAtSign_23 rfl rfl ?_
      refine g_bipush (v := (62 : Int32)) C dX5_lookAtSign_24 (by decide) ?_
      refine g_icmp_eq (tgt := 35) C dX5_lookAtSign_26 (by decide) h (fun h => ?_) (fun h => ?_)
      · refine g_iconst (v := (3 : Int32)) C dX5_lookAtSign_35 (by decide) ?_
        refine g_goto (tgt := 40) C dX5_lookAtSign_36 (by decide) ?_
        refine put_X5_32 C dX5_lookAtSign_40 (by decide) ?_
        refine g_aload_n C dX5_lookAtSign_43 rfl rfl ?_
        refine g_iload_n C dX5_lookAtSign_44 rfl rfl ?_
        refine put_X5_35 C dX5_lookAtSign_45 (by decide) ?_
        refine g_aload_n C dX5_lookAtSign_48 rfl rfl ?_
        refine g_dup C dX5_lookAtSign_49 rfl ?_
        refine get_X5_26 C dX5_lookAtSign_50 (by decide) ?_
        refine g_iconst (v := (1 : Int32)) C dX5_lookAtSign_53 (by decide) ?_
        refine g_iadd C dX5_lookAtSign_54 ?_
        refine put_X5_26 C dX5_lookAtSign_55 (by decide) ?_
        exact g_vret C R dX5_lookAtSign_58 (Option.some.inj h)
      · refine g_iload_n C dX5_lookAtSign_29 rfl rfl ?_
        refine g_bipush (v := (61 : Int32)) C dX5_lookAtSign_30 (by decide) ?_
        refine g_icmp_ne (tgt := 39) C dX5_lookAtSign_32 (by decide) h (fun h => ?_) (fun h => ?_)
        · refine g_iconst (v := (4 : Int32)) C dX5_lookAtSign_39 (by decide) ?_
          refine put_X5_32 C dX5_lookAtSign_40 (by decide) ?_
          refine g_aload_n C dX5_lookAtSign_43 rfl rfl ?_
          refine g_iload_n C dX5_lookAtSign_44 rfl rfl ?_
          refine put_X5_35 C dX5_lookAtSign_45 (by decide) ?_
          refine g_aload_n C dX5_lookAtSign_48 rfl rfl ?_
          refine g_dup C dX5_lookAtSign_49 rfl ?_
          refine get_X5_26 C dX5_lookAtSign_50 (by decide) ?_
          refine g_iconst (v := (1 : Int32)) C dX5_lookAtSign_53 (by decide) ?_
          refine g_iadd C dX5_lookAtSign_54 ?_
          refine put_X5_26 C dX5_lookAtSign_55 (by decide) ?_
          exact g_vret C R dX5_lookAtSign_58 (Option.some.inj h)
        · refine g_iconst (v := (3 : Int32)) C dX5_lookAtSign_35 (by decide) ?_
          refine g_goto (tgt := 40) C dX5_lookAtSign_36 (by decide) ?_
          refine put_X5_32 C dX5_lookAtSign_40 (by decide) ?_
          refine g_aload_n C dX5_lookAtSign_43 rfl rfl ?_
          refine g_iload_n C dX5_lookAtSign_44 rfl rfl ?_
          refine put_X5_35 C dX5_lookAtSign_45 (by decide) ?_
          refine g_aload_n C dX5_lookAtSign_48 rfl rfl ?_
          refine g_dup C dX5_lookAtSign_49 rfl ?_
          refine get_X5_26 C dX5_lookAtSign_50 (by decide) ?_
          refine g_iconst (v := (1 : Int32)) C dX5_lookAtSign_53 (by decide) ?_
          refine g_iadd C dX5_lookAtSign_54 ?_
          refine put_X5_26 C dX5_lookAtSign_55 (by decide) ?_
          exact g_vret C R dX5_lookAtSign_58 (Option.some.inj h)
