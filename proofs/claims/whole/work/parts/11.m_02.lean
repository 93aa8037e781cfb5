noncomputable def f_X5_needCompares (M : Mem) : Option (Int32 × Mem) :=
  if (M.1 30 0 6) = (3 : Int32) then
    if (M.1 30 0 7) = (59 : Int32) then
      (f_X5_fail (2 : Int32) M).bind fun q5 =>
      if isB q5.1 = true then some (q5.1, q5.2) else none
    else
      let M3 := sR M 30 0 (upd (M.1 30 0) 9 (M.1 30 0 7))
      (f_X5_advance M3).bind fun M4 =>
      some ((1 : Int32), M4)
  else
    (f_X5_fail (2 : Int32) M).bind fun q1 =>
    if isB q1.1 = true then some (q1.1, q1.2) else none
set_option maxRecDepth 20000 in
set_option maxHeartbeats 2000000 in
theorem c_X5_needCompares (E : wEnv) {M : Mem} {q : (Int32 × Mem)} (h : f_X5_needCompares M = some q) : Mt E yX5_needCompares cX5_needCompares 1 (some .boolean) 2 [.ref (ad E 30 0)] M (some (.int q.1)) q.2 := by
  unfold f_X5_needCompares at h
  refine mt_intro (own := RX5) (lv0 := [(0, .ref (ad E 30 0))]) (by decide) rfl rfl rfl (fun Y C R => ?_)
  refine g_aload_n C dX5_needCompares_0 rfl rfl ?_
  refine get_X5_32 C dX5_needCompares_1 (by decide) ?_
  refine g_iconst (v := (3 : Int32)) C dX5_needCompares_4 (by decide) ?_
  refine g_icmp_ne (tgt := 17) C dX5_needCompares_5 (by decide) h (fun h => ?_) (fun h => ?_)
  · refine g_aload_n C dX5_needCompares_17 rfl rfl ?_
    refine g_iconst (v := (2 : Int32)) C dX5_needCompares_18 (by decide) ?_
    obtain ⟨q1, hr1, h⟩ := Option.bind_eq_some_iff.mp h
    refine call_X5_83 C dX5_needCompares_19 (by decide) (c_X5_fail E hr1) (by decide) rfl ?_
    obtain ⟨hz2, h⟩ := of_ite h
    exact g_zret C R dX5_needCompares_22 (fst_of h) (isB_of hz2) (snd_of h)
  · refine g_aload_n C dX5_needCompares_8 rfl rfl ?_
    refine get_X5_35 C dX5_needCompares_9 (by decide) ?_
    refine g_bipush (v := (59 : Int32)) C dX5_needCompares_12 (by decide) ?_
    refine g_icmp_ne (tgt := 23) C dX5_needCompares_14 (by decide) h (fun h => ?_) (fun h => ?_)
    · refine g_aload_n C dX5_needCompares_23 rfl rfl ?_
      refine g_aload_n C dX5_needCompares_24 rfl rfl ?_
      refine get_X5_35 C dX5_needCompares_25 (by decide) ?_
      refine put_X5_42 C dX5_needCompares_28 (by decide) ?_
      refine g_aload_n C dX5_needCompares_31 rfl rfl ?_
      obtain ⟨M4, hr4, h⟩ := Option.bind_eq_some_iff.mp h
      refine call_X5_64 C dX5_needCompares_32 (by decide) (c_X5_advance E hr4) (by decide) rfl ?_
      refine g_iconst (v := (1 : Int32)) C dX5_needCompares_35 (by decide) ?_
      exact g_zret C R dX5_needCompares_36 (fst_of h) (Or.inr rfl) (snd_of h)
    · refine g_aload_n C dX5_needCompares_17 rfl rfl ?_
      refine g_iconst (v := (2 : Int32)) C dX5_needCompares_18 (by decide) ?_
      obtain ⟨q5, hr5, h⟩ := Option.bind_eq_some_iff.mp h
      refine call_X5_83 C dX5_needCompares_19 (by decide) (c_X5_fail E hr5) (by decide) rfl ?_
      obtain ⟨hz6, h⟩ := of_ite h
      exact g_zret C R dX5_needCompares_22 (fst_of h) (isB_of hz6) (snd_of h)
noncomputable def f_X6_isMissing (x1 : Int32) (M : Mem) : Option Int32 :=
  if inb x1 4 = true then
   if (M.1 5 0 x1.toNatClampNeg) < 0 then
     some (1 : Int32)
   else
     some (0 : Int32)
  else none
set_option maxRecDepth 20000 in
set_option maxHeartbeats 2000000 in
theorem c_X6_isMissing (E : wEnv) {x1 : Int32} {M : Mem} {q : Int32} (h : f_X6_isMissing x1 M = some q) : Mt E yX6_isMissing cX6_isMissing 2 (some .boolean) 0 [.ref (ad E 2 0), .int x1] M (some (.int q)) M := by
  unfold f_X6_isMissing at h
  refine mt_intro (own := RX6) (lv0 := [(0, .ref (ad E 2 0)), (1, .int x1)]) (by decide) rfl rfl rfl (fun Y C R => ?_)
  refine g_aload_n C dX6_isMissing_0 rfl rfl ?_
  refine get_X6_16 C dX6_isMissing_1 (by decide) ?_
  refine g_iload_n C dX6_isMissing_4 rfl rfl ?_
  obtain ⟨hb1, h⟩ := of_ite h
  refine ld_5 (j := _) C dX6_isMissing_5 (by decide) hb1 rfl ?_
  refine g_if_ge (tgt := 13) C dX6_isMissing_6 (by decide) h (fun h => ?_) (fun h => ?_)
  · refine g_iconst (v := (0 : Int32)) C dX6_isMissing_13 (by decide) ?_
    exact g_zret C R dX6_isMissing_14 (Option.some.inj h) (Or.inl rfl) rfl
  · refine g_iconst (v := (1 : Int32)) C dX6_isMissing_9 (by decide) ?_
    refine g_goto (tgt := 14) C dX6_isMissing_10 (by decide) ?_
    exact g_zret C R dX6_isMissing_14 (Option.some.inj h) (Or.inr rfl) rfl
noncomputable def f_X6_holds (x1 : Int32) (x2 : Int32) (x3 : Int32) (M : Mem) : Option Int32 :=
  if x2 < 0 then
    some (0 : Int32)
  else
    if inb x1 4 = true then
     if (M.1 5 0 x1.toNatClampNeg) < x3 then
       some (0 : Int32)
     else
       if inb x1 4 = true then
        if ((M.1 5 0 x1.toNatClampNeg) - x3) < x2 then
          some (0 : Int32)
        else
          some (1 : Int32)
       else none
    else none
set_option maxRecDepth 20000 in
set_option maxHeartbeats 2000000 in
theorem c_X6_holds (E : wEnv) {x1 : Int32} {x2 : Int32} {x3 : Int32} {M : Mem} {q : Int32} (h : f_X6_holds x1 x2 x3 M = some q) : Mt E yX6_holds cX6_holds 4 (some .boolean) 0 [.ref (ad E 2 0), .int x1, .int x2, .int x3] M (some (.int q)) M := by
  unfold f_X6_holds at h
  refine mt_intro (own := RX6) (lv0 := [(0, .ref (ad E 2 0)), (1, .int x1), (2, .int x2), (3, .int x3)]) (by decide) rfl rfl rfl (fun Y C R => ?_)
  refine g_iload_n C dX6_holds_0 rfl rfl ?_
  refine g_if_lt (tgt := 30) C dX6_holds_1 (by decide) h (fun h => ?_) (fun h => ?_)
  · refine g_iconst (v := (0 : Int32)) C dX6_holds_30 (by decide) ?_
    exact g_zret C R dX6_holds_31 (Option.some.inj h) (Or.inl rfl) rfl
  · refine g_iload_n C dX6_holds_4 rfl rfl ?_
    refine g_aload_n C dX6_holds_5 rfl rfl ?_
    refine get_X6_16 C dX6_holds_6 (by decide) ?_
    refine g_iload_n C dX6_holds_9 rfl rfl ?_
    obtain ⟨hb1, h⟩ := of_ite h
    refine ld_5 (j := _) C dX6_holds_10 (by decide) hb1 rfl ?_
    refine g_icmp_gt (tgt := 30) C dX6_holds_11 (by decide) h (fun h => ?_) (fun h => ?_)
    · refine g_iconst (v := (0 : Int32)) C dX6_holds_30 (by decide) ?_
      exact g_zret C R dX6_holds_31 (Option.some.inj h) (Or.inl rfl) rfl
    · refine g_iload_n C dX6_holds_14 rfl rfl ?_
      refine g_aload_n C dX6_holds_15 rfl rfl ?_
      refine get_X6_16 C dX6_holds_16 (by decide) ?_
      refine g_iload_n C dX6_holds_19 rfl rfl ?_
      obtain ⟨hb2, h⟩ := of_ite h
      refine ld_5 (j := _) C dX6_holds_20 (by decide) hb2 rfl ?_
      refine g_iload_n C dX6_holds_21 rfl rfl ?_
      refine g_isub C dX6_holds_22 ?_
      refine g_icmp_gt (tgt := 30) C dX6_holds_23 (by decide) h (fun h => ?_) (fun h => ?_)
      · refine g_iconst (v := (0 : Int32)) C dX6_holds_30 (by decide) ?_
        exact g_zret C R dX6_holds_31 (Option.some.inj h) (Or.inl rfl) rfl
      · refine g_iconst (v := (1 : Int32)) C dX6_holds_26 (by decide) ?_
        refine g_goto (tgt := 31) C dX6_holds_27 (by decide) ?_
        exact g_zret C R dX6_holds_31 (Option.some.inj h) (Or.inr rfl) rfl
noncomputable def f_X6_lay_17 (x1 : Int32) (x3 : Int32) : Nat → Int32 → Mem → Option Mem
  | 0, _, _ => none
  | n + 1, x4, M =>
  if x4 < x3 then
    if inb x1 4 = true then
     if inb x4 60 = true then
      let M7 := sL M 4 x1.toNatClampNeg (vp_updL (M.2 4 x1.toNatClampNeg) x4.toNatClampNeg (0 : Int64))
      f_X6_lay_17 x1 x3 n (x4 + (1 : Int32)) M7
     else none
    else none
  else
    some M
noncomputable def f_X6_lay (x1 : Int32) (x2 : Int32) (x3 : Int32) (M : Mem) : Option Mem :=
  if inb x1 4 = true then
   let M2 := sR M 5 0 (upd (M.1 5 0) x1.toNatClampNeg x3)
   if inb x1 4 = true then
    let M4 := sR M2 6 0 (upd (M2.1 6 0) x1.toNatClampNeg x2)
    f_X6_lay_17 x1 x3 FU (0 : Int32) M4
   else none
  else none
set_option maxRecDepth 20000 in
set_option maxHeartbeats 2000000 in
theorem b_X6_lay_17 {E : wEnv} {Y : YT} (C : Cx E Y cX6_lay 5 RX6 0) {q : Mem} (R : Rx E Y none none q) {x1 : Int32} {x3 : Int32} (n : Nat) : ∀ {x4 : Int32} {M : Mem} (_ : f_X6_lay_17 x1 x3 n x4 M = some q), G E Y 5 M 17 [(0, .ref (ad E 2 0)), (1, .int x1), (3, .int x3), (4, .int x4)] [] := by
  induction n with
  | zero =>
    intro x4 M h
    cases (show none = some q from h)
  | succ n ih =>
    intro x4 M h
    rw [f_X6_lay_17] at h
    refine g_iload C dX6_lay_17 rfl ?_
    refine g_iload_n C dX6_lay_19 rfl rfl ?_
    refine g_icmp_ge (tgt := 39) C dX6_lay_20 (by decide) h (fun h => ?_) (fun h => ?_)
    · exact g_vret C R dX6_lay_39 (Option.some.inj h)
    · refine g_aload_n C dX6_lay_23 rfl rfl ?_
      refine get_X6_11 C dX6_lay_24 (by decide) ?_
      refine g_iload_n C dX6_lay_27 rfl rfl ?_
      obtain ⟨hb5, h⟩ := of_ite h
      refine ld_3 (j := _) C dX6_lay_28 (by decide) hb5 rfl ?_
      refine g_iload C dX6_lay_29 rfl ?_
      refine g_lconst (v := (0 : Int64)) C dX6_lay_31 (by decide) ?_
      obtain ⟨hb6, h⟩ := of_ite h
      refine st_4 (j := _) C dX6_lay_32 (inb_lt hb5) hb6 rfl ?_
      refine g_iinc (w := (1 : Int32)) C dX6_lay_33 rfl (by decide) rfl ?_
      refine g_goto (tgt := 17) C dX6_lay_36 (by decide) ?_
      exact g_sub (ih h) ⟨rfl, rfl, rfl, rfl, trivial⟩
set_option maxRecDepth 20000 in
set_option maxHeartbeats 2000000 in
theorem c_X6_lay (E : wEnv) {x1 : Int32} {x2 : Int32} {x3 : Int32} {M : Mem} {q : Mem} (h : f_X6_lay x1 x2 x3 M = some q) : Mt E yX6_lay cX6_lay 5 none 0 [.ref (ad E 2 0), .int x1, .int x2, .int x3] M none q := by
  unfold f_X6_lay at h
  refine mt_intro (own := RX6) (lv0 := [(0, .ref (ad E 2 0)), (1, .int x1), (2, .int x2), (3, .int x3)]) (by decide) rfl rfl rfl (fun Y C R => ?_)
  refine g_aload_n C dX6_lay_0 rfl rfl ?_
  refine get_X6_16 C dX6_lay_1 (by decide) ?_
  refine g_iload_n C dX6_lay_4 rfl rfl ?_
  refine g_iload_n C dX6_lay_5 rfl rfl ?_
  obtain ⟨hb1, h⟩ := of_ite h
  refine st_5 (j := _) C dX6_lay_6 (by decide) hb1 rfl ?_
  refine g_aload_n C dX6_lay_7 rfl rfl ?_
  refine get_X6_20 C dX6_lay_8 (by decide) ?_
  refine g_iload_n C dX6_lay_11 rfl rfl ?_
  refine g_iload_n C dX6_lay_12 rfl rfl ?_
  obtain ⟨hb3, h⟩ := of_ite h
  refine st_6 (j := _) C dX6_lay_13 (by decide) hb3 rfl ?_
  refine g_iconst (v := (0 : Int32)) C dX6_lay_14 (by decide) ?_
  refine g_istore C dX6_lay_15 rfl ?_
  exact g_sub (b_X6_lay_17 C R _ h) ⟨rfl, rfl, rfl, rfl, trivial⟩
noncomputable def f_X6_put (x1 : Int32) (x2 : Int32) (l3 : Int64) (M : Mem) : Option Mem :=
  if inb x1 4 = true then
   if (M.1 6 0 x1.toNatClampNeg) = (0 : Int32) then
     if inb x1 4 = true then
      if inb x2 60 = true then
       let M4 := sL M 4 x1.toNatClampNeg (vp_updL (M.2 4 x1.toNatClampNeg) x2.toNatClampNeg l3.toInt32.toInt8.toInt32.toInt64)
       some M4
      else none
     else none
   else
   if (M.1 6 0 x1.toNatClampNeg) = (1 : Int32) then
     if inb x1 4 = true then
      if inb x2 60 = true then
       let M8 := sL M 4 x1.toNatClampNeg (vp_updL (M.2 4 x1.toNatClampNeg) x2.toNatClampNeg l3.toInt32.toInt16.toInt32.toInt64)
       some M8
      else none
     else none
   else
   if (M.1 6 0 x1.toNatClampNeg) = (2 : Int32) then
     if inb x1 4 = true then
      if inb x2 60 = true then
       let M12 := sL M 4 x1.toNatClampNeg (vp_updL (M.2 4 x1.toNatClampNeg) x2.toNatClampNeg l3.toInt32.toInt64)
       some M12
      else none
     else none
   else
     if inb x1 4 = true then
      if inb x2 60 = true then
       let M16 := sL M 4 x1.toNatClampNeg (vp_updL (M.2 4 x1.toNatClampNeg) x2.toNatClampNeg l3)
       some M16
      else none
     else none
  else none
set_option maxRecDepth 20000 in
set_option maxHeartbeats 2000000 in
theorem c_X6_put (E : wEnv) {x1 : Int32} {x2 : Int32} {l3 : Int64} {M : Mem} {q : Mem} (h : f_X6_put x1 x2 l3 M = some q) : Mt E yX6_put cX6_put 5 none 0 [.ref (ad E 2 0), .int x1, .int x2, .long l3] M none q := by
  unfold f_X6_put at h
  refine mt_intro (own := RX6) (lv0 := [(0, .ref (ad E 2 0)), (1, .int x1), (2, .int x2), (3, .long l3)]) (by decide) rfl rfl rfl (fun Y C R => ?_)
  refine g_aload_n C dX6_put_0 rfl rfl ?_
  refine get_X6_20 C dX6_put_1 (by decide) ?_
  refine g_iload_n C dX6_put_4 rfl rfl ?_
  obtain ⟨hb1, h⟩ := of_ite h
  refine ld_6 (j := _) C dX6_put_5 (by decide) hb1 rfl ?_
  rcases of_ites h with ⟨c5, h⟩ | ⟨c5, h⟩
  · refine g_tabIn (v := (0 : Int32)) (tgt := 32) C dX6_put_6 c5 (by decide) (by decide) rfl (by decide) ?_
    refine g_aload_n C dX6_put_32 rfl rfl ?_
    refine get_X6_11 C dX6_put_33 (by decide) ?_
    refine g_iload_n C dX6_put_36 rfl rfl ?_
    obtain ⟨hb2, h⟩ := of_ite h
    refine ld_3 (j := _) C dX6_put_37 (by decide) hb2 rfl ?_
    refine g_iload_n C dX6_put_38 rfl rfl ?_
    refine g_lload_n C dX6_put_39 rfl rfl ?_
    refine g_l2i C dX6_put_40 ?_
    refine g_i2b C dX6_put_41 ?_
    refine g_i2l C dX6_put_42 ?_
    obtain ⟨hb3, h⟩ := of_ite h
    refine st_4 (j := _) C dX6_put_43 (inb_lt hb2) hb3 rfl ?_
    refine g_goto (tgt := 85) C dX6_put_44 (by decide) ?_
    exact g_vret C R dX6_put_85 (Option.some.inj h)
  · rcases of_ites h with ⟨c9, h⟩ | ⟨c9, h⟩
    · refine g_tabIn (v := (1 : Int32)) (tgt := 47) C dX6_put_6 c9 (by decide) (by decide) rfl (by decide) ?_
      refine g_aload_n C dX6_put_47 rfl rfl ?_
      refine get_X6_11 C dX6_put_48 (by decide) ?_
      refine g_iload_n C dX6_put_51 rfl rfl ?_
      obtain ⟨hb6, h⟩ := of_ite h
      refine ld_3 (j := _) C dX6_put_52 (by decide) hb6 rfl ?_
      refine g_iload_n C dX6_put_53 rfl rfl ?_
      refine g_lload_n C dX6_put_54 rfl rfl ?_
      refine g_l2i C dX6_put_55 ?_
      refine g_i2s C dX6_put_56 ?_
      refine g_i2l C dX6_put_57 ?_
      obtain ⟨hb7, h⟩ := of_ite h
      refine st_4 (j := _) C dX6_put_58 (inb_lt hb6) hb7 rfl ?_
      refine g_goto (tgt := 85) C dX6_put_59 (by decide) ?_
      exact g_vret C R dX6_put_85 (Option.some.inj h)
    · rcases of_ites h with ⟨c13, h⟩ | ⟨c13, h⟩
      · refine g_tabIn (v := (2 : Int32)) (tgt := 62) C dX6_put_6 c13 (by decide) (by decide) rfl (by decide) ?_
        refine g_aload_n C dX6_put_62 rfl rfl ?_
        refine get_X6_11 C dX6_put_63 (by decide) ?_
        refine g_iload_n C dX6_put_66 rfl rfl ?_
        obtain ⟨hb10, h⟩ := of_ite h
        refine ld_3 (j := _) C dX6_put_67 (by decide) hb10 rfl ?_
        refine g_iload_n C dX6_put_68 rfl rfl ?_
        refine g_lload_n C dX6_put_69 rfl rfl ?_
        refine g_l2i C dX6_put_70 ?_
        refine g_i2l C dX6_put_71 ?_
        obtain ⟨hb11, h⟩ := of_ite h
        refine st_4 (j := _) C dX6_put_72 (inb_lt hb10) hb11 rfl ?_
        refine g_goto (tgt := 85) C dX6_put_73 (by decide) ?_
        exact g_vret C R dX6_put_85 (Option.some.inj h)
      · refine g_tabOut (n := 3) (tgt := 76) C dX6_put_6 ⟨c5, c9, c13, trivial⟩ (by decide) (by decide) ?_
        refine g_aload_n C dX6_put_76 rfl rfl ?_
        refine get_X6_11 C dX6_put_77 (by decide) ?_
        refine g_iload_n C dX6_put_80 rfl rfl ?_
        obtain ⟨hb14, h⟩ := of_ite h
        refine ld_3 (j := _) C dX6_put_81 (by decide) hb14 rfl ?_
        refine g_iload_n C dX6_put_82 rfl rfl ?_
        refine g_lload_n C dX6_put_83 rfl rfl ?_
        obtain ⟨hb15, h⟩ := of_ite h
        refine st_4 (j := _) C dX6_put_84 (inb_lt hb14) hb15 rfl ?_
        exact g_vret C R dX6_put_85 (Option.some.inj h)
noncomputable def f_X7_clear (i0 : Nat) (M : Mem) : Option Mem :=
  let M1 := sR M 23 i0 (upd (M.1 23 i0) 6 (0 : Int32))
  let M2 := sR M1 23 i0 (upd (M1.1 23 i0) 7 (0 : Int32))
  let M3 := sR M2 23 i0 (upd (M2.1 23 i0) 8 (0 : Int32))
  some M3
set_option maxRecDepth 20000 in
set_option maxHeartbeats 2000000 in
theorem c_X7_clear (E : wEnv) {i0 : Nat} {M : Mem} {q : Mem} (hi0 : i0 < cnt 23) (h : f_X7_clear i0 M = some q) : Mt E yX7_clear cX7_clear 1 none 0 [.ref (ad E 23 i0)] M none q := by
  unfold f_X7_clear at h
  refine mt_intro (own := RX7) (lv0 := [(0, .ref (ad E 23 i0))]) (by decide) rfl rfl rfl (fun Y C R => ?_)
  refine g_aload_n C dX7_clear_0 rfl rfl ?_
  refine g_iconst (v := (0 : Int32)) C dX7_clear_1 (by decide) ?_
  refine put_X7_30 C dX7_clear_2 hi0 ?_
  refine g_aload_n C dX7_clear_5 rfl rfl ?_
  refine g_iconst (v := (0 : Int32)) C dX7_clear_6 (by decide) ?_
  refine put_X7_34 C dX7_clear_7 hi0 ?_
  refine g_aload_n C dX7_clear_10 rfl rfl ?_
  refine g_iconst (v := (0 : Int32)) C dX7_clear_11 (by decide) ?_
  refine put_X7_37 C dX7_clear_12 hi0 (Or.inl rfl) ?_
  exact g_vret C R dX7_clear_15 (Option.some.inj h)
noncomputable def f_X7_copyFrom (i0 : Nat) (i1 : Nat) (M : Mem) : Option Mem :=
  let M1 := sR M 24 i0 (va_cpy (M.1 24 i1) (M.1 24 i0) 0 0 60)
  let M2 := sR M1 25 i0 (va_cpy (M1.1 25 i1) (M1.1 25 i0) 0 0 60)
  let M3 := sR M2 26 i0 (va_cpy (M2.1 26 i1) (M2.1 26 i0) 0 0 60)
  let M4 := sR M3 27 i0 (va_cpy (M3.1 27 i1) (M3.1 27 i0) 0 0 60)
  let M5 := sR M4 28 i0 (va_cpy (M4.1 28 i1) (M4.1 28 i0) 0 0 60)
  let M6 := sR M5 29 i0 (va_cpy (M5.1 29 i1) (M5.1 29 i0) 0 0 60)
  let M7 := sR M6 23 i0 (upd (M6.1 23 i0) 6 (M6.1 23 i1 6))
  let M8 := sR M7 23 i0 (upd (M7.1 23 i0) 7 (M7.1 23 i1 7))
  if isB (M8.1 23 i1 8) = true then
   let M10 := sR M8 23 i0 (upd (M8.1 23 i0) 8 (M8.1 23 i1 8))
   some M10
  else none
set_option maxRecDepth 20000 in
set_option maxHeartbeats 2000000 in
theorem c_X7_copyFrom (E : wEnv) {i0 : Nat} {i1 : Nat} {M : Mem} {q : Mem} (hi0 : i0 < cnt 23) (hi1 : i1 < cnt 23) (h : f_X7_copyFrom i0 i1 M = some q) : Mt E yX7_copyFrom cX7_copyFrom 2 none 1 [.ref (ad E 23 i0), .ref (ad E 23 i1)] M none q := by
  unfold f_X7_copyFrom at h
  refine mt_intro (own := RX7) (lv0 := [(0, .ref (ad E 23 i0)), (1, .ref (ad E 23 i1))]) (by decide) rfl rfl rfl (fun Y C R => ?_)
  refine g_aload_n C dX7_copyFrom_0 rfl rfl ?_
  refine get_X7_9 C dX7_copyFrom_1 hi1 ?_
  refine g_iconst (v := (0 : Int32)) C dX7_copyFrom_4 (by decide) ?_
  refine g_aload_n C dX7_copyFrom_5 rfl rfl ?_
  refine get_X7_9 C dX7_copyFrom_6 hi0 ?_
  refine g_iconst (v := (0 : Int32)) C dX7_copyFrom_9 (by decide) ?_
  refine g_aload_n C dX7_copyFrom_10 rfl rfl ?_
  refine get_X7_9 C dX7_copyFrom_11 hi0 ?_
  refine g_alen (t := 0) (v := (60 : Int32)) C dX7_copyFrom_14 (cE_24 E _ _) rfl (Nat.lt_of_lt_of_le hi0 (by decide : cnt 23 ≤ cnt 24)) rfl ?_
  refine cp_X7_41_24_24 (js := 0) (jd := 0) (jn := 60) C dX7_copyFrom_15 (Nat.lt_of_lt_of_le hi1 (by decide : cnt 23 ≤ cnt 24)) (Nat.lt_of_lt_of_le hi0 (by decide : cnt 23 ≤ cnt 24)) (by decide) rfl rfl rfl (by decide) rfl ?_
  refine g_aload_n C dX7_copyFrom_18 rfl rfl ?_
  refine get_X7_15 C dX7_copyFrom_19 hi1 ?_
  refine g_iconst (v := (0 : Int32)) C dX7_copyFrom_22 (by decide) ?_
  refine g_aload_n C dX7_copyFrom_23 rfl rfl ?_
  refine get_X7_15 C dX7_copyFrom_24 hi0 ?_
  refine g_iconst (v := (0 : Int32)) C dX7_copyFrom_27 (by decide) ?_
  refine g_aload_n C dX7_copyFrom_28 rfl rfl ?_
  refine get_X7_15 C dX7_copyFrom_29 hi0 ?_
  refine g_alen (t := 0) (v := (60 : Int32)) C dX7_copyFrom_32 (cE_25 E _ _) rfl (Nat.lt_of_lt_of_le hi0 (by decide : cnt 23 ≤ cnt 25)) rfl ?_
  refine cp_X7_41_25_25 (js := 0) (jd := 0) (jn := 60) C dX7_copyFrom_33 (Nat.lt_of_lt_of_le hi1 (by decide : cnt 23 ≤ cnt 25)) (Nat.lt_of_lt_of_le hi0 (by decide : cnt 23 ≤ cnt 25)) (by decide) rfl rfl rfl (by decide) rfl ?_
  refine g_aload_n C dX7_copyFrom_36 rfl rfl ?_
  refine get_X7_18 C dX7_copyFrom_37 hi1 ?_
  refine g_iconst (v := (0 : Int32)) C dX7_copyFrom_40 (by decide) ?_
  refine g_aload_n C dX7_copyFrom_41 rfl rfl ?_
  refine get_X7_18 C dX7_copyFrom_42 hi0 ?_
  refine g_iconst (v := (0 : Int32)) C dX7_copyFrom_45 (by decide) ?_
  refine g_aload_n C dX7_copyFrom_46 rfl rfl ?_
  refine get_X7_18 C dX7_copyFrom_47 hi0 ?_
  refine g_alen (t := 0) (v := (60 : Int32)) C dX7_copyFrom_50 (cE_26 E _ _) rfl (Nat.lt_of_lt_of_le hi0 (by decide : cnt 23 ≤ cnt 26)) rfl ?_
  refine cp_X7_41_26_26 (js := 0) (jd := 0) (jn := 60) C dX7_copyFrom_51 (Nat.lt_of_lt_of_le hi1 (by decide : cnt 23 ≤ cnt 26)) (Nat.lt_of_lt_of_le hi0 (by decide : cnt 23 ≤ cnt 26)) (by decide) rfl rfl rfl (by decide) rfl ?_
  refine g_aload_n C dX7_copyFrom_54 rfl rfl ?_
  refine get_X7_21 C dX7_copyFrom_55 hi1 ?_
  refine g_iconst (v := (0 : Int32)) C dX7_copyFrom_58 (by decide) ?_
  refine g_aload_n C dX7_copyFrom_59 rfl rfl ?_
  refine get_X7_21 C dX7_copyFrom_60 hi0 ?_
  refine g_iconst (v := (0 : Int32)) C dX7_copyFrom_63 (by decide) ?_
  refine g_aload_n C dX7_copyFrom_64 rfl rfl ?_
  refine get_X7_21 C dX7_copyFrom_65 hi0 ?_
  refine g_alen (t := 0) (v := (60 : Int32)) C dX7_copyFrom_68 (cE_27 E _ _) rfl (Nat.lt_of_lt_of_le hi0 (by decide : cnt 23 ≤ cnt 27)) rfl ?_
  refine cp_X7_41_27_27 (js := 0) (jd := 0) (jn := 60) C dX7_copyFrom_69 (Nat.lt_of_lt_of_le hi1 (by decide : cnt 23 ≤ cnt 27)) (Nat.lt_of_lt_of_le hi0 (by decide : cnt 23 ≤ cnt 27)) (by decide) rfl rfl rfl (by decide) rfl ?_
  refine g_aload_n C dX7_copyFrom_72 rfl rfl ?_
  refine get_X7_24 C dX7_copyFrom_73 hi1 ?_
  refine g_iconst (v := (0 : Int32)) C dX7_copyFrom_76 (by decide) ?_
  refine g_aload_n C dX7_copyFrom_77 rfl rfl ?_
  refine get_X7_24 C dX7_copyFrom_78 hi0 ?_
  refine g_iconst (v := (0 : Int32)) C dX7_copyFrom_81 (by decide) ?_
  refine g_aload_n C dX7_copyFrom_82 rfl rfl ?_
  refine get_X7_24 C dX7_copyFrom_83 hi0 ?_
  refine g_alen (t := 0) (v := (60 : Int32)) C dX7_copyFrom_86 (cE_28 E _ _) rfl (Nat.lt_of_lt_of_le hi0 (by decide : cnt 23 ≤ cnt 28)) rfl ?_
  refine cp_X7_41_28_28 (js := 0) (jd := 0) (jn := 60) C dX7_copyFrom_87 (Nat.lt_of_lt_of_le hi1 (by decide : cnt 23 ≤ cnt 28)) (Nat.lt_of_lt_of_le hi0 (by decide : cnt 23 ≤ cnt 28)) (by decide) rfl rfl rfl (by decide) rfl ?_
  refine g_aload_n C dX7_copyFrom_90 rfl rfl ?_
  refine get_X7_27 C dX7_copyFrom_91 hi1 ?_
  refine g_iconst (v := (0 : Int32)) C dX7_copyFrom_94 (by decide) ?_
  refine g_aload_n C dX7_copyFrom_95 rfl rfl ?_
  refine get_X7_27 C dX7_copyFrom_96 hi0 ?_
  refine g_iconst (v := (0 : Int32)) C dX7_copyFrom_99 (by decide) ?_
  refine g_aload_n C dX7_copyFrom_100 rfl rfl ?_
  refine get_X7_27 C dX7_copyFrom_101 hi0 ?_
  refine g_alen (t := 0) (v := (60 : Int32)) C dX7_copyFrom_104 (cE_29 E _ _) rfl (Nat.lt_of_lt_of_le hi0 (by decide : cnt 23 ≤ cnt 29)) rfl ?_
  refine cp_X7_41_29_29 (js := 0) (jd := 0) (jn := 60) C dX7_copyFrom_105 (Nat.lt_of_lt_of_le hi1 (by decide : cnt 23 ≤ cnt 29)) (Nat.lt_of_lt_of_le hi0 (by decide : cnt 23 ≤ cnt 29)) (by decide) rfl rfl rfl (by decide) rfl ?_
  refine g_aload_n C dX7_copyFrom_108 rfl rfl ?_
  refine g_aload_n C dX7_copyFrom_109 rfl rfl ?_
  refine get_X7_30 C dX7_copyFrom_110 hi1 ?_
  refine put_X7_30 C dX7_copyFrom_113 hi0 ?_
  refine g_aload_n C dX7_copyFrom_116 rfl rfl ?_
  refine g_aload_n C dX7_copyFrom_117 rfl rfl ?_
  refine get_X7_34 C dX7_copyFrom_118 hi1 ?_
  refine put_X7_34 C dX7_copyFrom_121 hi0 ?_
  refine g_aload_n C dX7_copyFrom_124 rfl rfl ?_
  refine g_aload_n C dX7_copyFrom_125 rfl rfl ?_
  refine get_X7_37 C dX7_copyFrom_126 hi1 ?_
  obtain ⟨hz9, h⟩ := of_ite h
  refine put_X7_37 C dX7_copyFrom_129 hi0 (isB_of hz9) ?_
  exact g_vret C R dX7_copyFrom_132 (Option.some.inj h)
noncomputable def f_X7_addRow (i0 : Nat) (x1 : Int32) (M : Mem) : Option (Int32 × Mem) :=
  if inb (M.1 23 i0 6) 60 = true then
   let M2 := sR M 24 i0 (upd (M.1 24 i0) ((M.1 23 i0 6).toNatClampNeg) x1)
   if inb (M.1 23 i0 6) 60 = true then
    let M4 := sR M2 25 i0 (upd (M2.1 25 i0) ((M.1 23 i0 6).toNatClampNeg) (0 : Int32))
    if inb (M.1 23 i0 6) 60 = true then
     let M6 := sR M4 26 i0 (upd (M4.1 26 i0) ((M.1 23 i0 6).toNatClampNeg) (0 : Int32))
     if inb (M.1 23 i0 6) 60 = true then
      let M8 := sR M6 27 i0 (upd (M6.1 27 i0) ((M.1 23 i0 6).toNatClampNeg) (0 : Int32))
      if inb (M.1 23 i0 6) 60 = true then
       let M10 := sR M8 28 i0 (upd (M8.1 28 i0) ((M.1 23 i0 6).toNatClampNeg) (0 : Int32))
       if inb (M.1 23 i0 6) 60 = true then
        let M12 := sR M10 29 i0 (upd (M10.1 29 i0) ((M.1 23 i0 6).toNatClampNeg) (0 : Int32))
        let M13 := sR M12 23 i0 (upd (M12.1 23 i0) 6 ((M12.1 23 i0 6) + (1 : Int32)))
        some ((M.1 23 i0 6), M13)
       else none
      else none
     else none
    else none
   else none
  else none
set_option maxRecDepth 20000 in
set_option maxHeartbeats 2000000 in
theorem c_X7_addRow (E : wEnv) {i0 : Nat} {x1 : Int32} {M : Mem} {q : (Int32 × Mem)} (hi0 : i0 < cnt 23) (h : f_X7_addRow i0 x1 M = some q) : Mt E yX7_addRow cX7_addRow 3 (some .int) 0 [.ref (ad E 23 i0), .int x1] M (some (.int q.1)) q.2 := by
  unfold f_X7_addRow at h
  refine mt_intro (own := RX7) (lv0 := [(0, .ref (ad E 23 i0)), (1, .int x1)]) (by decide) rfl rfl rfl (fun Y C R => ?_)
  refine g_aload_n C dX7_addRow_0 rfl rfl ?_
  refine get_X7_30 C dX7_addRow_1 hi0 ?_
  refine g_istore_n C dX7_addRow_4 rfl rfl ?_
  refine g_aload_n C dX7_addRow_5 rfl rfl ?_
  refine get_X7_9 C dX7_addRow_6 hi0 ?_
  refine g_iload_n C dX7_addRow_9 rfl rfl ?_
  refine g_iload_n C dX7_addRow_10 rfl rfl ?_
  obtain ⟨hb1, h⟩ := of_ite h
  refine st_24 (j := _) C dX7_addRow_11 (Nat.lt_of_lt_of_le hi0 (by decide : cnt 23 ≤ cnt 24)) hb1 rfl ?_
  refine g_aload_n C dX7_addRow_12 rfl rfl ?_
  refine get_X7_15 C dX7_addRow_13 hi0 ?_
  refine g_iload_n C dX7_addRow_16 rfl rfl ?_
  refine g_iconst (v := (0 : Int32)) C dX7_addRow_17 (by decide) ?_
  obtain ⟨hb3, h⟩ := of_ite h
  refine st_25 (j := _) C dX7_addRow_18 (Nat.lt_of_lt_of_le hi0 (by decide : cnt 23 ≤ cnt 25)) hb3 rfl ?_
  refine g_aload_n C dX7_addRow_19 rfl rfl ?_
  refine get_X7_18 C dX7_addRow_20 hi0 ?_
  refine g_iload_n C dX7_addRow_23 rfl rfl ?_
  refine g_iconst (v := (0 : Int32)) C dX7_addRow_24 (by decide) ?_
  obtain ⟨hb5, h⟩ := of_ite h
  refine st_26 (j := _) C dX7_addRow_25 (Nat.lt_of_lt_of_le hi0 (by decide : cnt 23 ≤ cnt 26)) hb5 rfl ?_
  refine g_aload_n C dX7_addRow_26 rfl rfl ?_
  refine get_X7_21 C dX7_addRow_27 hi0 ?_
  refine g_iload_n C dX7_addRow_30 rfl rfl ?_
  refine g_iconst (v := (0 : Int32)) C dX7_addRow_31 (by decide) ?_
  obtain ⟨hb7, h⟩ := of_ite h
  refine st_27 (j := _) C dX7_addRow_32 (Nat.lt_of_lt_of_le hi0 (by decide : cnt 23 ≤ cnt 27)) hb7 rfl ?_
  refine g_aload_n C dX7_addRow_33 rfl rfl ?_
  refine get_X7_24 C dX7_addRow_34 hi0 ?_
  refine g_iload_n C dX7_addRow_37 rfl rfl ?_
  refine g_iconst (v := (0 : Int32)) C dX7_addRow_38 (by decide) ?_
  obtain ⟨hb9, h⟩ := of_ite h
  refine st_28 (j := _) C dX7_addRow_39 (Nat.lt_of_lt_of_le hi0 (by decide : cnt 23 ≤ cnt 28)) hb9 rfl ?_
  refine g_aload_n C dX7_addRow_40 rfl rfl ?_
  refine get_X7_27 C dX7_addRow_41 hi0 ?_
  refine g_iload_n C dX7_addRow_44 rfl rfl ?_
  refine g_iconst (v := (0 : Int32)) C dX7_addRow_45 (by decide) ?_
  obtain ⟨hb11, h⟩ := of_ite h
  refine st_29 (j := _) C dX7_addRow_46 (Nat.lt_of_lt_of_le hi0 (by decide : cnt 23 ≤ cnt 29)) hb11 rfl ?_
  refine g_aload_n C dX7_addRow_47 rfl rfl ?_
  refine g_dup C dX7_addRow_48 rfl ?_
  refine get_X7_30 C dX7_addRow_49 hi0 ?_
  refine g_iconst (v := (1 : Int32)) C dX7_addRow_52 (by decide) ?_
  refine g_iadd C dX7_addRow_53 ?_
  refine put_X7_30 C dX7_addRow_54 hi0 ?_
  refine g_iload_n C dX7_addRow_57 rfl rfl ?_
  exact g_iret C R dX7_addRow_58 (fst_of h) (snd_of h)
noncomputable def f_X8_closes (i2 : Nat) (M : Mem) : Option (Int32 × Mem) :=
  if 0 < (M.1 34 0 1) then
    let M1 := sR M 34 0 (upd (M.1 34 0) 1 ((M.1 34 0 1) - (1 : Int32)))
    if inb (M1.1 34 0 1) 3 = true then
     let x3_3 := (M1.1 35 0 ((M1.1 34 0 1).toNatClampNeg))
     (f_X7_addRow i2 (28 : Int32) M1).bind fun q4 =>
     if inb q4.1 60 = true then
      let M6 := sR q4.2 29 i2 (upd (q4.2.1 29 i2) q4.1.toNatClampNeg x3_3)
      if inb x3_3 60 = true then
       let M8 := sR M6 29 i2 (upd (M6.1 29 i2) x3_3.toNatClampNeg q4.1)
       (f_X5_advance M8).bind fun M9 =>
       some ((1 : Int32), M9)
      else none
     else none
    else none
  else
    (f_X5_fail (2 : Int32) M).bind fun q10 =>
    if isB q10.1 = true then some (q10.1, q10.2) else none
set_option maxRecDepth 20000 in
set_option maxHeartbeats 2000000 in
theorem c_X8_closes (E : wEnv) {i2 : Nat} {M : Mem} {q : (Int32 × Mem)} (hi2 : i2 < cnt 23) (h : f_X8_closes i2 M = some q) : Mt E yX8_closes cX8_closes 5 (some .boolean) 2 [.ref (ad E 34 0), .ref (ad E 30 0), .ref (ad E 23 i2)] M (some (.int q.1)) q.2 := by
  unfold f_X8_closes at h
  refine mt_intro (own := RX8) (lv0 := [(0, .ref (ad E 34 0)), (1, .ref (ad E 30 0)), (2, .ref (ad E 23 i2))]) (by decide) rfl rfl rfl (fun Y C R => ?_)
  refine g_aload_n C dX8_closes_0 rfl rfl ?_
  refine get_X8_15 C dX8_closes_1 (by decide) ?_
  refine g_if_gt (tgt := 13) C dX8_closes_4 (by decide) h (fun h => ?_) (fun h => ?_)
  · refine g_aload_n C dX8_closes_13 rfl rfl ?_
    refine g_dup C dX8_closes_14 rfl ?_
    refine get_X8_15 C dX8_closes_15 (by decide) ?_
    refine g_iconst (v := (1 : Int32)) C dX8_closes_18 (by decide) ?_
    refine g_isub C dX8_closes_19 ?_
    refine put_X8_15 C dX8_closes_20 (by decide) ?_
    refine g_aload_n C dX8_closes_23 rfl rfl ?_
    refine get_X8_9 C dX8_closes_24 (by decide) ?_
    refine g_aload_n C dX8_closes_27 rfl rfl ?_
    refine get_X8_15 C dX8_closes_28 (by decide) ?_
    obtain ⟨hb2, h⟩ := of_ite h
    refine ld_35 (j := _) C dX8_closes_31 (by decide) hb2 rfl ?_
    refine g_istore_n C dX8_closes_32 rfl rfl ?_
    refine g_aload_n C dX8_closes_33 rfl rfl ?_
    refine g_bipush (v := (28 : Int32)) C dX8_closes_34 (by decide) ?_
    obtain ⟨q4, hr4, h⟩ := Option.bind_eq_some_iff.mp h
    refine call_X8_63 C dX8_closes_36 hi2 (c_X7_addRow E hi2 hr4) (by decide) rfl ?_
    refine g_istore C dX8_closes_39 rfl ?_
    refine g_aload_n C dX8_closes_41 rfl rfl ?_
    refine get_X8_67 C dX8_closes_42 hi2 ?_
    refine g_iload C dX8_closes_45 rfl ?_
    refine g_iload_n C dX8_closes_47 rfl rfl ?_
    obtain ⟨hb5, h⟩ := of_ite h
    refine st_29 (j := _) C dX8_closes_48 (Nat.lt_of_lt_of_le hi2 (by decide : cnt 23 ≤ cnt 29)) hb5 rfl ?_
    refine g_aload_n C dX8_closes_49 rfl rfl ?_
    refine get_X8_67 C dX8_closes_50 hi2 ?_
    refine g_iload_n C dX8_closes_53 rfl rfl ?_
    refine g_iload C dX8_closes_54 rfl ?_
    obtain ⟨hb7, h⟩ := of_ite h
    refine st_29 (j := _) C dX8_closes_56 (Nat.lt_of_lt_of_le hi2 (by decide : cnt 23 ≤ cnt 29)) hb7 rfl ?_
    refine g_aload_n C dX8_closes_57 rfl rfl ?_
    obtain ⟨M9, hr9, h⟩ := Option.bind_eq_some_iff.mp h
    refine call_X8_70 C dX8_closes_58 (by decide) (c_X5_advance E hr9) (by decide) rfl ?_
    refine g_iconst (v := (1 : Int32)) C dX8_closes_61 (by decide) ?_
    exact g_zret C R dX8_closes_62 (fst_of h) (Or.inr rfl) (snd_of h)
  · refine g_aload_n C dX8_closes_7 rfl rfl ?_
    refine g_iconst (v := (2 : Int32)) C dX8_closes_8 (by decide) ?_
    obtain ⟨q10, hr10, h⟩ := Option.bind_eq_some_iff.mp h
    refine call_X8_59 C dX8_closes_9 (by decide) (c_X5_fail E hr10) (by decide) rfl ?_
    obtain ⟨hz11, h⟩ := of_ite h
    exact g_zret C R dX8_closes_12 (fst_of h) (isB_of hz11) (snd_of h)
noncomputable def f_X8_begins_89 (i2 : Nat) (x3 : Int32) (x4 : Int32) (M : Mem) : Option (Int32 × Mem) :=
  (f_X7_addRow i2 x3 M).bind fun q2 =>
  let M3 := sR q2.2 23 i2 (upd (q2.2.1 23 i2) 7 ((q2.2.1 23 i2 7) + (1 : Int32)))
  if x4 = 0 then
    (f_X5_advance M3).bind fun M4 =>
    some ((1 : Int32), M4)
  else
    if inb (M3.1 34 0 1) 3 = true then
     let M6 := sR M3 35 0 (upd (M3.1 35 0) ((M3.1 34 0 1).toNatClampNeg) q2.1)
     let M7 := sR M6 34 0 (upd (M6.1 34 0) 1 ((M6.1 34 0 1) + (1 : Int32)))
     (f_X5_advance M7).bind fun M8 =>
     some ((1 : Int32), M8)
    else none
noncomputable def f_X8_begins_53 (i2 : Nat) (x3 : Int32) (x4 : Int32) (M : Mem) : Option (Int32 × Mem) :=
  if (M.1 23 i2 7) < (30 : Int32) then
    if x4 = 0 then
      f_X8_begins_89 i2 x3 x4 M
    else
      if (M.1 34 0 1) < (3 : Int32) then
        f_X8_begins_89 i2 x3 x4 M
      else
        (f_X5_fail (7 : Int32) M).bind fun q9 =>
        if isB q9.1 = true then some (q9.1, q9.2) else none
  else
    (f_X5_fail (6 : Int32) M).bind fun q11 =>
    if isB q11.1 = true then some (q11.1, q11.2) else none
noncomputable def f_X8_begins_22 (i2 : Nat) (x3 : Int32) (ps0 : Int32) (M : Mem) : Option (Int32 × Mem) :=
  if ps0 = 0 then
    if x3 = (29 : Int32) then
      f_X8_begins_53 i2 x3 ps0 M
    else
      if x3 < (18 : Int32) then
        (f_X5_fail (2 : Int32) M).bind fun q13 =>
        if isB q13.1 = true then some (q13.1, q13.2) else none
      else
        if (24 : Int32) < x3 then
          (f_X5_fail (2 : Int32) M).bind fun q15 =>
          if isB q15.1 = true then some (q15.1, q15.2) else none
        else
          f_X8_begins_53 i2 x3 ps0 M
  else
    f_X8_begins_53 i2 x3 ps0 M
noncomputable def f_X8_begins_17 (i2 : Nat) (x3 : Int32) (M : Mem) : Option (Int32 × Mem) :=
  f_X8_begins_22 i2 x3 (1 : Int32) M
noncomputable def f_X8_begins (i2 : Nat) (M : Mem) : Option (Int32 × Mem) :=
  (f_X5_word M).bind fun r1 =>
  if r1 = (25 : Int32) then
    f_X8_begins_17 i2 r1 M
  else
    if r1 = (27 : Int32) then
      f_X8_begins_17 i2 r1 M
    else
      f_X8_begins_22 i2 r1 (0 : Int32) M
set_option maxRecDepth 20000 in
set_option maxHeartbeats 2000000 in
theorem b_X8_begins_89 {E : wEnv} {Y : YT} (C : Cx E Y cX8_begins 6 RX8 2) {q : (Int32 × Mem)} (R : Rx E Y (some .boolean) (some (.int q.1)) q.2) {i2 : Nat} {x3 : Int32} {x4 : Int32} (hi2 : i2 < cnt 23) {M : Mem} (h : f_X8_begins_89 i2 x3 x4 M = some q) : G E Y 6 M 89 [(0, .ref (ad E 34 0)), (1, .ref (ad E 30 0)), (2, .ref (ad E 23 i2)), (3, .int x3), (4, .int x4)] [] := by
  unfold f_X8_begins_89 at h
  refine g_aload_n C dX8_begins_89 rfl rfl ?_
  refine g_iload_n C dX8_begins_90 rfl rfl ?_
  obtain ⟨q2, hr2, h⟩ := Option.bind_eq_some_iff.mp h
  refine call_X8_63 C dX8_begins_91 hi2 (c_X7_addRow E hi2 hr2) (by decide) rfl ?_
  refine g_istore C dX8_begins_94 rfl ?_
  refine g_aload_n C dX8_begins_96 rfl rfl ?_
  refine g_dup C dX8_begins_97 rfl ?_
  refine get_X8_73 C dX8_begins_98 hi2 ?_
  refine g_iconst (v := (1 : Int32)) C dX8_begins_101 (by decide) ?_
  refine g_iadd C dX8_begins_102 ?_
  refine put_X8_73 C dX8_begins_103 hi2 ?_
  refine g_iload C dX8_begins_106 rfl ?_
  refine g_if_eq (tgt := 132) C dX8_begins_108 (by decide) h (fun h => ?_) (fun h => ?_)
  · refine g_aload_n C dX8_begins_132 rfl rfl ?_
    obtain ⟨M4, hr4, h⟩ := Option.bind_eq_some_iff.mp h
    refine call_X8_70 C dX8_begins_133 (by decide) (c_X5_advance E hr4) (by decide) rfl ?_
    refine g_iconst (v := (1 : Int32)) C dX8_begins_136 (by decide) ?_
    exact g_zret C R dX8_begins_137 (fst_of h) (Or.inr rfl) (snd_of h)
  · refine g_aload_n C dX8_begins_111 rfl rfl ?_
    refine get_X8_9 C dX8_begins_112 (by decide) ?_
    refine g_aload_n C dX8_begins_115 rfl rfl ?_
    refine get_X8_15 C dX8_begins_116 (by decide) ?_
    refine g_iload C dX8_begins_119 rfl ?_
    obtain ⟨hb5, h⟩ := of_ite h
    refine st_35 (j := _) C dX8_begins_121 (by decide) hb5 rfl ?_
    refine g_aload_n C dX8_begins_122 rfl rfl ?_
    refine g_dup C dX8_begins_123 rfl ?_
    refine get_X8_15 C dX8_begins_124 (by decide) ?_
    refine g_iconst (v := (1 : Int32)) C dX8_begins_127 (by decide) ?_
    refine g_iadd C dX8_begins_128 ?_
    refine put_X8_15 C dX8_begins_129 (by decide) ?_
    refine g_aload_n C dX8_begins_132 rfl rfl ?_
    obtain ⟨M8, hr8, h⟩ := Option.bind_eq_some_iff.mp h
    refine call_X8_70 C dX8_begins_133 (by decide) (c_X5_advance E hr8) (by decide) rfl ?_
    refine g_iconst (v := (1 : Int32)) C dX8_begins_136 (by decide) ?_
    exact g_zret C R dX8_begins_137 (fst_of h) (Or.inr rfl) (snd_of h)
set_option maxRecDepth 20000 in
set_option maxHeartbeats 2000000 in
theorem b_X8_begins_53 {E : wEnv} {Y : YT} (C : Cx E Y cX8_begins 6 RX8 2) {q : (Int32 × Mem)} (R : Rx E Y (some .boolean) (some (.int q.1)) q.2) {i2 : Nat} {x3 : Int32} {x4 : Int32} (hi2 : i2 < cnt 23) {M : Mem} (h : f_X8_begins_53 i2 x3 x4 M = some q) : G E Y 6 M 53 [(0, .ref (ad E 34 0)), (1, .ref (ad E 30 0)), (2, .ref (ad E 23 i2)), (3, .int x3), (4, .int x4)] [] := by
  unfold f_X8_begins_53 at h
  refine g_aload_n C dX8_begins_53 rfl rfl ?_
  refine get_X8_73 C dX8_begins_54 hi2 ?_
  refine g_bipush (v := (30 : Int32)) C dX8_begins_57 (by decide) ?_
  refine g_icmp_lt (tgt := 69) C dX8_begins_59 (by decide) h (fun h => ?_) (fun h => ?_)
  · refine g_iload C dX8_begins_69 rfl ?_
    refine g_if_eq (tgt := 89) C dX8_begins_71 (by decide) h (fun h => ?_) (fun h => ?_)
    · exact g_sub (b_X8_begins_89 C R hi2 h) ⟨rfl, rfl, rfl, rfl, rfl, trivial⟩
    · refine g_aload_n C dX8_begins_74 rfl rfl ?_
      refine get_X8_15 C dX8_begins_75 (by decide) ?_
      refine g_iconst (v := (3 : Int32)) C dX8_begins_78 (by decide) ?_
      refine g_icmp_lt (tgt := 89) C dX8_begins_79 (by decide) h (fun h => ?_) (fun h => ?_)
      · exact g_sub (b_X8_begins_89 C R hi2 h) ⟨rfl, rfl, rfl, rfl, rfl, trivial⟩
      · refine g_aload_n C dX8_begins_82 rfl rfl ?_
        refine g_bipush (v := (7 : Int32)) C dX8_begins_83 (by decide) ?_
        obtain ⟨q9, hr9, h⟩ := Option.bind_eq_some_iff.mp h
        refine call_X8_59 C dX8_begins_85 (by decide) (c_X5_fail E hr9) (by decide) rfl ?_
        obtain ⟨hz10, h⟩ := of_ite h
        exact g_zret C R dX8_begins_88 (fst_of h) (isB_of hz10) (snd_of h)
  · refine g_aload_n C dX8_begins_62 rfl rfl ?_
    refine g_bipush (v := (6 : Int32)) C dX8_begins_63 (by decide) ?_
    obtain ⟨q11, hr11, h⟩ := Option.bind_eq_some_iff.mp h
    refine call_X8_59 C dX8_begins_65 (by decide) (c_X5_fail E hr11) (by decide) rfl ?_
    obtain ⟨hz12, h⟩ := of_ite h
    exact g_zret C R dX8_begins_68 (fst_of h) (isB_of hz12) (snd_of h)
set_option maxRecDepth 20000 in
set_option maxHeartbeats 2000000 in
theorem b_X8_begins_22 {E : wEnv} {Y : YT} (C : Cx E Y cX8_begins 6 RX8 2) {q : (Int32 × Mem)} (R : Rx E Y (some .boolean) (some (.int q.1)) q.2) {i2 : Nat} {x3 : Int32} {ps0 : Int32} (hi2 : i2 < cnt 23) {M : Mem} (h : f_X8_begins_22 i2 x3 ps0 M = some q) : G E Y 6 M 22 [(0, .ref (ad E 34 0)), (1, .ref (ad E 30 0)), (2, .ref (ad E 23 i2)), (3, .int x3)] [.int ps0] := by
  unfold f_X8_begins_22 at h
  refine g_istore C dX8_begins_22 rfl ?_
  refine g_iload C dX8_begins_24 rfl ?_
  refine g_if_ne (tgt := 53) C dX8_begins_26 (by decide) h (fun h => ?_) (fun h => ?_)
  · exact g_sub (b_X8_begins_53 C R hi2 h) ⟨rfl, rfl, rfl, rfl, rfl, trivial⟩
  · refine g_iload_n C dX8_begins_29 rfl rfl ?_
    refine g_bipush (v := (29 : Int32)) C dX8_begins_30 (by decide) ?_
    refine g_icmp_eq (tgt := 53) C dX8_begins_32 (by decide) h (fun h => ?_) (fun h => ?_)
    · exact g_sub (b_X8_begins_53 C R hi2 h) ⟨rfl, rfl, rfl, rfl, rfl, trivial⟩
    · refine g_iload_n C dX8_begins_35 rfl rfl ?_
      refine g_bipush (v := (18 : Int32)) C dX8_begins_36 (by decide) ?_
      refine g_icmp_lt (tgt := 47) C dX8_begins_38 (by decide) h (fun h => ?_) (fun h => ?_)
      · refine g_aload_n C dX8_begins_47 rfl rfl ?_
        refine g_iconst (v := (2 : Int32)) C dX8_begins_48 (by decide) ?_
        obtain ⟨q13, hr13, h⟩ := Option.bind_eq_some_iff.mp h
        refine call_X8_59 C dX8_begins_49 (by decide) (c_X5_fail E hr13) (by decide) rfl ?_
        obtain ⟨hz14, h⟩ := of_ite h
        exact g_zret C R dX8_begins_52 (fst_of h) (isB_of hz14) (snd_of h)
      · refine g_iload_n C dX8_begins_41 rfl rfl ?_
        refine g_bipush (v := (24 : Int32)) C dX8_begins_42 (by decide) ?_
        refine g_icmp_le (tgt := 53) C dX8_begins_44 (by decide) h (fun h => ?_) (fun h => ?_)
        · exact g_sub (b_X8_begins_53 C R hi2 h) ⟨rfl, rfl, rfl, rfl, rfl, trivial⟩
        · refine g_aload_n C dX8_begins_47 rfl rfl ?_
          refine g_iconst (v := (2 : Int32)) C dX8_begins_48 (by decide) ?_
          obtain ⟨q15, hr15, h⟩ := Option.bind_eq_some_iff.mp h
          refine call_X8_59 C dX8_begins_49 (by decide) (c_X5_fail E hr15) (by decide) rfl ?_
          obtain ⟨hz16, h⟩ := of_ite h
          exact g_zret C R dX8_begins_52 (fst_of h) (isB_of hz16) (snd_of h)
set_option maxRecDepth 20000 in
set_option maxHeartbeats 2000000 in
theorem b_X8_begins_17 {E : wEnv} {Y : YT} (C : Cx E Y cX8_begins 6 RX8 2) {q : (Int32 × Mem)} (R : Rx E Y (some .boolean) (some (.int q.1)) q.2) {i2 : Nat} {x3 : Int32} (hi2 : i2 < cnt 23) {M : Mem} (h : f_X8_begins_17 i2 x3 M = some q) : G E Y 6 M 17 [(0, .ref (ad E 34 0)), (1, .ref (ad E 30 0)), (2, .ref (ad E 23 i2)), (3, .int x3)] [] := by
  unfold f_X8_begins_17 at h
  refine g_iconst (v := (1 : Int32)) C dX8_begins_17 (by decide) ?_
  refine g_goto (tgt := 22) C dX8_begins_18 (by decide) ?_
  exact g_sub (b_X8_begins_22 C R hi2 h) ⟨rfl, rfl, rfl, rfl, trivial⟩
set_option maxRecDepth 20000 in
set_option maxHeartbeats 2000000 in
theorem c_X8_begins (E : wEnv) {i2 : Nat} {M : Mem} {q : (Int32 × Mem)} (hi2 : i2 < cnt 23) (h : f_X8_begins i2 M = some q) : Mt E yX8_begins cX8_begins 6 (some .boolean) 2 [.ref (ad E 34 0), .ref (ad E 30 0), .ref (ad E 23 i2)] M (some (.int q.1)) q.2 := by
  unfold f_X8_begins at h
  refine mt_intro (own := RX8) (lv0 := [(0, .ref (ad E 34 0)), (1, .ref (ad E 30 0)), (2, .ref (ad E 23 i2))]) (by decide) rfl rfl rfl (fun Y C R => ?_)
  refine g_aload_n C dX8_begins_0 rfl rfl ?_
  obtain ⟨r1, hr1, h⟩ := Option.bind_eq_some_iff.mp h
  refine call_X8_40 C dX8_begins_1 (by decide) (c_X5_word E hr1) (by decide) rfl ?_
  refine g_istore_n C dX8_begins_4 rfl rfl ?_
  refine g_iload_n C dX8_begins_5 rfl rfl ?_
  refine g_bipush (v := (25 : Int32)) C dX8_begins_6 (by decide) ?_
  refine g_icmp_eq (tgt := 17) C dX8_begins_8 (by decide) h (fun h => ?_) (fun h => ?_)
  · exact g_sub (b_X8_begins_17 C R hi2 h) ⟨rfl, rfl, rfl, rfl, trivial⟩
  · refine g_iload_n C dX8_begins_11 rfl rfl ?_
    refine g_bipush (v := (27 : Int32)) C dX8_begins_12 (by decide) ?_
    refine g_icmp_ne (tgt := 21) C dX8_begins_14 (by decide) h (fun h => ?_) (fun h => ?_)
    · refine g_iconst (v := (0 : Int32)) C dX8_begins_21 (by decide) ?_
      exact g_sub (b_X8_begins_22 C R hi2 h) ⟨rfl, rfl, rfl, rfl, trivial⟩
    · exact g_sub (b_X8_begins_17 C R hi2 h) ⟨rfl, rfl, rfl, rfl, trivial⟩
noncomputable def f_X8_readTest_84 (i2 : Nat) (x3 : Int32) (x4 : Int32) (M : Mem) : Option (Int32 × Mem) :=
  if x4 = (7 : Int32) then
    some ((1 : Int32), M)
  else
    (f_X5_needCompares M).bind fun q5 =>
    if q5.1 = 0 then
      some ((0 : Int32), q5.2)
    else
      if inb x3 60 = true then
       let M7 := sR q5.2 27 i2 (upd (q5.2.1 27 i2) x3.toNatClampNeg (q5.2.1 30 0 9))
       if x4 = (26 : Int32) then
         (f_X5_needNumber (0 : Int32) (10 : Int32) M7).bind fun q12 =>
         if inb x3 60 = true then
          let M14 := sR q12.2 28 i2 (upd (q12.2.1 28 i2) x3.toNatClampNeg (q12.2.1 30 0 9))
          if isB q12.1 = true then some (q12.1, M14) else none
         else none
       else
         (f_X5_needEither (9999 : Int32) M7).bind fun q8 =>
         if inb x3 60 = true then
          let M10 := sR q8.2 28 i2 (upd (q8.2.1 28 i2) x3.toNatClampNeg (q8.2.1 30 0 9))
          if isB q8.1 = true then some (q8.1, M10) else none
         else none
      else none
noncomputable def f_X8_readTest_66 (i2 : Nat) (x3 : Int32) (x4 : Int32) (ws1 : Nat) (ps2 : Int32) (M : Mem) : Option (Int32 × Mem) :=
  (f_X5_needKnown ws1 ps2 M).bind fun q16 =>
  if q16.1 = 0 then
    some ((0 : Int32), q16.2)
  else
    if inb x3 60 = true then
     let M18 := sR q16.2 26 i2 (upd (q16.2.1 26 i2) x3.toNatClampNeg (q16.2.1 30 0 9))
     f_X8_readTest_84 i2 x3 x4 M18
    else none
noncomputable def f_X8_readTest_33 (i1 : Nat) (i2 : Nat) (x3 : Int32) (x4 : Int32) (M : Mem) : Option (Int32 × Mem) :=
  if inb x3 60 = true then
   let M3 := sR M 25 i2 (upd (M.1 25 i2) x3.toNatClampNeg x4)
   (f_X5_advance M3).bind fun M4 =>
   if x4 = (26 : Int32) then
     f_X8_readTest_84 i2 x3 x4 M4
   else
     if x4 = (7 : Int32) then
       f_X8_readTest_66 i2 x3 x4 i1 (2 : Int32) M4
     else
       f_X8_readTest_66 i2 x3 x4 i1 (3 : Int32) M4
  else none
noncomputable def f_X8_readTest (i1 : Nat) (i2 : Nat) (x3 : Int32) (M : Mem) : Option (Int32 × Mem) :=
  (f_X5_word M).bind fun r1 =>
  if r1 = (26 : Int32) then
    f_X8_readTest_33 i1 i2 x3 r1 M
  else
    if r1 = (7 : Int32) then
      f_X8_readTest_33 i1 i2 x3 r1 M
    else
      if r1 = (11 : Int32) then
        f_X8_readTest_33 i1 i2 x3 r1 M
      else
        (f_X5_fail (2 : Int32) M).bind fun q19 =>
        if isB q19.1 = true then some (q19.1, q19.2) else none
set_option maxRecDepth 20000 in
set_option maxHeartbeats 2000000 in
theorem b_X8_readTest_84 {E : wEnv} {Y : YT} (C : Cx E Y cX8_readTest 6 RX8 4) {q : (Int32 × Mem)} (R : Rx E Y (some .boolean) (some (.int q.1)) q.2) {i2 : Nat} {x3 : Int32} {x4 : Int32} (hi2 : i2 < cnt 23) {M : Mem} (h : f_X8_readTest_84 i2 x3 x4 M = some q) : G E Y 6 M 84 [(0, .ref (ad E 30 0)), (2, .ref (ad E 23 i2)), (3, .int x3), (4, .int x4)] [] := by
  unfold f_X8_readTest_84 at h
  refine g_iload C dX8_readTest_84 rfl ?_
  refine g_bipush (v := (7 : Int32)) C dX8_readTest_86 (by decide) ?_
  refine g_icmp_ne (tgt := 93) C dX8_readTest_88 (by decide) h (fun h => ?_) (fun h => ?_)
  · refine g_aload_n C dX8_readTest_93 rfl rfl ?_
    obtain ⟨q5, hr5, h⟩ := Option.bind_eq_some_iff.mp h
    refine call_X8_109 C dX8_readTest_94 (by decide) (c_X5_needCompares E hr5) (by decide) rfl ?_
    refine g_if_ne (tgt := 102) C dX8_readTest_97 (by decide) h (fun h => ?_) (fun h => ?_)
    · refine g_aload_n C dX8_readTest_102 rfl rfl ?_
      refine get_X8_100 C dX8_readTest_103 hi2 ?_
      refine g_iload_n C dX8_readTest_106 rfl rfl ?_
      refine g_aload_n C dX8_readTest_107 rfl rfl ?_
      refine get_X8_97 C dX8_readTest_108 (by decide) ?_
      obtain ⟨hb6, h⟩ := of_ite h
      refine st_27 (j := _) C dX8_readTest_111 (Nat.lt_of_lt_of_le hi2 (by decide : cnt 23 ≤ cnt 27)) hb6 rfl ?_
      refine g_iload C dX8_readTest_112 rfl ?_
      refine g_bipush (v := (26 : Int32)) C dX8_readTest_114 (by decide) ?_
      refine g_icmp_ne (tgt := 129) C dX8_readTest_116 (by decide) h (fun h => ?_) (fun h => ?_)
      · refine g_aload_n C dX8_readTest_129 rfl rfl ?_
        refine g_sipush (v := (9999 : Int32)) C dX8_readTest_130 (by decide) ?_
        obtain ⟨q8, hr8, h⟩ := Option.bind_eq_some_iff.mp h
        refine call_X8_112 C dX8_readTest_133 (by decide) (c_X5_needEither E hr8) (by decide) rfl ?_
        refine g_istore C dX8_readTest_136 rfl ?_
        refine g_aload_n C dX8_readTest_138 rfl rfl ?_
        refine get_X8_115 C dX8_readTest_139 hi2 ?_
        refine g_iload_n C dX8_readTest_142 rfl rfl ?_
        refine g_aload_n C dX8_readTest_143 rfl rfl ?_
        refine get_X8_97 C dX8_readTest_144 (by decide) ?_
        obtain ⟨hb9, h⟩ := of_ite h
        refine st_28 (j := _) C dX8_readTest_147 (Nat.lt_of_lt_of_le hi2 (by decide : cnt 23 ≤ cnt 28)) hb9 rfl ?_
        refine g_iload C dX8_readTest_148 rfl ?_
        obtain ⟨hz11, h⟩ := of_ite h
        exact g_zret C R dX8_readTest_150 (fst_of h) (isB_of hz11) (snd_of h)
      · refine g_aload_n C dX8_readTest_119 rfl rfl ?_
        refine g_iconst (v := (0 : Int32)) C dX8_readTest_120 (by decide) ?_
        refine g_bipush (v := (10 : Int32)) C dX8_readTest_121 (by decide) ?_
        obtain ⟨q12, hr12, h⟩ := Option.bind_eq_some_iff.mp h
        refine call_X8_86 C dX8_readTest_123 (by decide) (c_X5_needNumber E hr12) (by decide) rfl ?_
        refine g_goto (tgt := 136) C dX8_readTest_126 (by decide) ?_
        refine g_istore C dX8_readTest_136 rfl ?_
        refine g_aload_n C dX8_readTest_138 rfl rfl ?_
        refine get_X8_115 C dX8_readTest_139 hi2 ?_
        refine g_iload_n C dX8_readTest_142 rfl rfl ?_
        refine g_aload_n C dX8_readTest_143 rfl rfl ?_
        refine get_X8_97 C dX8_readTest_144 (by decide) ?_
        obtain ⟨hb13, h⟩ := of_ite h
        refine st_28 (j := _) C dX8_readTest_147 (Nat.lt_of_lt_of_le hi2 (by decide : cnt 23 ≤ cnt 28)) hb13 rfl ?_
        refine g_iload C dX8_readTest_148 rfl ?_
        obtain ⟨hz15, h⟩ := of_ite h
        exact g_zret C R dX8_readTest_150 (fst_of h) (isB_of hz15) (snd_of h)
    · refine g_iconst (v := (0 : Int32)) C dX8_readTest_100 (by decide) ?_
      exact g_zret C R dX8_readTest_101 (fst_of h) (Or.inl rfl) (snd_of h)
  · refine g_iconst (v := (1 : Int32)) C dX8_readTest_91 (by decide) ?_
    exact g_zret C R dX8_readTest_92 (fst_of h) (Or.inr rfl) (snd_of h)
set_option maxRecDepth 20000 in
set_option maxHeartbeats 2000000 in
theorem b_X8_readTest_66 {E : wEnv} {Y : YT} (C : Cx E Y cX8_readTest 6 RX8 4) {q : (Int32 × Mem)} (R : Rx E Y (some .boolean) (some (.int q.1)) q.2) {i2 : Nat} {x3 : Int32} {x4 : Int32} {ws1 : Nat} {ps2 : Int32} (hi2 : i2 < cnt 23) (hws1 : ws1 < cnt 8) {M : Mem} (h : f_X8_readTest_66 i2 x3 x4 ws1 ps2 M = some q) : G E Y 6 M 66 [(0, .ref (ad E 30 0)), (2, .ref (ad E 23 i2)), (3, .int x3), (4, .int x4)] [.int ps2, .ref (ad E 8 ws1), .ref (ad E 30 0)] := by
  unfold f_X8_readTest_66 at h
  obtain ⟨q16, hr16, h⟩ := Option.bind_eq_some_iff.mp h
  refine call_X8_82 C dX8_readTest_66 (by decide) (c_X5_needKnown E hws1 hr16) (by decide) rfl ?_
  refine g_if_ne (tgt := 74) C dX8_readTest_69 (by decide) h (fun h => ?_) (fun h => ?_)
  · refine g_aload_n C dX8_readTest_74 rfl rfl ?_
    refine get_X8_106 C dX8_readTest_75 hi2 ?_
    refine g_iload_n C dX8_readTest_78 rfl rfl ?_
    refine g_aload_n C dX8_readTest_79 rfl rfl ?_
    refine get_X8_97 C dX8_readTest_80 (by decide) ?_
    obtain ⟨hb17, h⟩ := of_ite h
    refine st_26 (j := _) C dX8_readTest_83 (Nat.lt_of_lt_of_le hi2 (by decide : cnt 23 ≤ cnt 26)) hb17 rfl ?_
    exact g_sub (b_X8_readTest_84 C R hi2 h) ⟨rfl, rfl, rfl, rfl, trivial⟩
  · refine g_iconst (v := (0 : Int32)) C dX8_readTest_72 (by decide) ?_
    exact g_zret C R dX8_readTest_73 (fst_of h) (Or.inl rfl) (snd_of h)
set_option maxRecDepth 20000 in
set_option maxHeartbeats 2000000 in
theorem b_X8_readTest_33 {E : wEnv} {Y : YT} (C : Cx E Y cX8_readTest 6 RX8 4) {q : (Int32 × Mem)} (R : Rx E Y (some .boolean) (some (.int q.1)) q.2) {i1 : Nat} {i2 : Nat} {x3 : Int32} {x4 : Int32} (hi1 : i1 < cnt 8) (hi2 : i2 < cnt 23) {M : Mem} (h : f_X8_readTest_33 i1 i2 x3 x4 M = some q) : G E Y 6 M 33 [(0, .ref (ad E 30 0)), (1, .ref (ad E 8 i1)), (2, .ref (ad E 23 i2)), (3, .int x3), (4, .int x4)] [] := by
  unfold f_X8_readTest_33 at h
  refine g_aload_n C dX8_readTest_33 rfl rfl ?_
  refine get_X8_94 C dX8_readTest_34 hi2 ?_
  refine g_iload_n C dX8_readTest_37 rfl rfl ?_
  refine g_iload C dX8_readTest_38 rfl ?_
  obtain ⟨hb2, h⟩ := of_ite h
  refine st_25 (j := _) C dX8_readTest_40 (Nat.lt_of_lt_of_le hi2 (by decide : cnt 23 ≤ cnt 25)) hb2 rfl ?_
  refine g_aload_n C dX8_readTest_41 rfl rfl ?_
  obtain ⟨M4, hr4, h⟩ := Option.bind_eq_some_iff.mp h
  refine call_X8_70 C dX8_readTest_42 (by decide) (c_X5_advance E hr4) (by decide) rfl ?_
  refine g_iload C dX8_readTest_45 rfl ?_
  refine g_bipush (v := (26 : Int32)) C dX8_readTest_47 (by decide) ?_
  refine g_icmp_eq (tgt := 84) C dX8_readTest_49 (by decide) h (fun h => ?_) (fun h => ?_)
  · exact g_sub (b_X8_readTest_84 C R hi2 h) ⟨rfl, rfl, rfl, rfl, trivial⟩
  · refine g_aload_n C dX8_readTest_52 rfl rfl ?_
    refine g_aload_n C dX8_readTest_53 rfl rfl ?_
    refine g_iload C dX8_readTest_54 rfl ?_
    refine g_bipush (v := (7 : Int32)) C dX8_readTest_56 (by decide) ?_
    refine g_icmp_ne (tgt := 65) C dX8_readTest_58 (by decide) h (fun h => ?_) (fun h => ?_)
    · refine g_iconst (v := (3 : Int32)) C dX8_readTest_65 (by decide) ?_
      exact g_sub (b_X8_readTest_66 C R hi2 hi1 h) ⟨rfl, rfl, rfl, rfl, trivial⟩
    · refine g_iconst (v := (2 : Int32)) C dX8_readTest_61 (by decide) ?_
      refine g_goto (tgt := 66) C dX8_readTest_62 (by decide) ?_
      exact g_sub (b_X8_readTest_66 C R hi2 hi1 h) ⟨rfl, rfl, rfl, rfl, trivial⟩
set_option maxRecDepth 20000 in
set_option maxHeartbeats 2000000 in
theorem c_X8_readTest (E : wEnv) {i1 : Nat} {i2 : Nat} {x3 : Int32} {M : Mem} {q : (Int32 × Mem)} (hi1 : i1 < cnt 8) (hi2 : i2 < cnt 23) (h : f_X8_readTest i1 i2 x3 M = some q) : Mt E yX8_readTest cX8_readTest 6 (some .boolean) 4 [.ref (ad E 30 0), .ref (ad E 8 i1), .ref (ad E 23 i2), .int x3] M (some (.int q.1)) q.2 := by
  unfold f_X8_readTest at h
  refine mt_intro (own := RX8) (lv0 := [(0, .ref (ad E 30 0)), (1, .ref (ad E 8 i1)), (2, .ref (ad E 23 i2)), (3, .int x3)]) (by decide) rfl rfl rfl (fun Y C R => ?_)
  refine g_aload_n C dX8_readTest_0 rfl rfl ?_
  obtain ⟨r1, hr1, h⟩ := Option.bind_eq_some_iff.mp h
  refine call_X8_40 C dX8_readTest_1 (by decide) (c_X5_word E hr1) (by decide) rfl ?_
  refine g_istore C dX8_readTest_4 rfl ?_
  refine g_iload C dX8_readTest_6 rfl ?_
  refine g_bipush (v := (26 : Int32)) C dX8_readTest_8 (by decide) ?_
  refine g_icmp_eq (tgt := 33) C dX8_readTest_10 (by decide) h (fun h => ?_) (fun h => ?_)
  · exact g_sub (b_X8_readTest_33 C R hi1 hi2 h) ⟨rfl, rfl, rfl, rfl, rfl, trivial⟩
  · refine g_iload C dX8_readTest_13 rfl ?_
    refine g_bipush (v := (7 : Int32)) C dX8_readTest_15 (by decide) ?_
    refine g_icmp_eq (tgt := 33) C dX8_readTest_17 (by decide) h (fun h => ?_) (fun h => ?_)
    · exact g_sub (b_X8_readTest_33 C R hi1 hi2 h) ⟨rfl, rfl, rfl, rfl, rfl, trivial⟩
    · refine g_iload C dX8_readTest_20 rfl ?_
      refine g_bipush (v := (11 : Int32)) C dX8_readTest_22 (by decide) ?_
      refine g_icmp_eq (tgt := 33) C dX8_readTest_24 (by decide) h (fun h => ?_) (fun h => ?_)
      · exact g_sub (b_X8_readTest_33 C R hi1 hi2 h) ⟨rfl, rfl, rfl, rfl, rfl, trivial⟩
      · refine g_aload_n C dX8_readTest_27 rfl rfl ?_
        refine g_iconst (v := (2 : Int32)) C dX8_readTest_28 (by decide) ?_
        obtain ⟨q19, hr19, h⟩ := Option.bind_eq_some_iff.mp h
        refine call_X8_59 C dX8_readTest_29 (by decide) (c_X5_fail E hr19) (by decide) rfl ?_
        obtain ⟨hz20, h⟩ := of_ite h
        exact g_zret C R dX8_readTest_32 (fst_of h) (isB_of hz20) (snd_of h)
noncomputable def f_X8_readRest_126 (i2 : Nat) (x3 : Int32) (x4 : Int32) (M : Mem) : Option (Int32 × Mem) :=
  if inb x3 60 = true then
   let M5 := sR M 25 i2 (upd (M.1 25 i2) x3.toNatClampNeg (M.1 30 0 9))
   if x4 = 0 then
     if isB x4 = true then some (x4, M5) else none
   else
     if inb x3 60 = true then
      if (M5.1 24 i2 x3.toNatClampNeg) = (23 : Int32) then
        (f_X5_takeWord (2 : Int32) M5).bind fun q9 =>
        if q9.1 = 0 then
          if inb x3 60 = true then
           let M11 := sR q9.2 27 i2 (upd (q9.2.1 27 i2) x3.toNatClampNeg (1 : Int32))
           if isB x4 = true then some (x4, M11) else none
          else none
        else
          if inb x3 60 = true then
           let M14 := sR q9.2 27 i2 (upd (q9.2.1 27 i2) x3.toNatClampNeg (-1 : Int32))
           if isB x4 = true then some (x4, M14) else none
          else none
      else
        if isB x4 = true then some (x4, M5) else none
     else none
  else none
noncomputable def f_X8_readRest (i1 : Nat) (i2 : Nat) (M : Mem) : Option (Int32 × Mem) :=
  let x3_1 := ((M.1 23 i2 6) - (1 : Int32))
  if inb x3_1 60 = true then
   if (M.1 24 i2 x3_1.toNatClampNeg) = (18 : Int32) then
     (f_X5_needKnown i1 (1 : Int32) M).bind fun q3 =>
     f_X8_readRest_126 i2 x3_1 q3.1 q3.2
   else
   if (M.1 24 i2 x3_1.toNatClampNeg) = (19 : Int32) then
     (f_X5_needNumber (1 : Int32) (99 : Int32) M).bind fun q17 =>
     f_X8_readRest_126 i2 x3_1 q17.1 q17.2
   else
   if (M.1 24 i2 x3_1.toNatClampNeg) = (20 : Int32) then
     f_X8_readRest_126 i2 x3_1 (1 : Int32) M
   else
   if (M.1 24 i2 x3_1.toNatClampNeg) = (21 : Int32) then
     (f_X5_needKnown i1 (0 : Int32) M).bind fun q20 =>
     f_X8_readRest_126 i2 x3_1 q20.1 q20.2
   else
   if (M.1 24 i2 x3_1.toNatClampNeg) = (22 : Int32) then
     (f_X5_needKnown i1 (0 : Int32) M).bind fun q22 =>
     f_X8_readRest_126 i2 x3_1 q22.1 q22.2
   else
   if (M.1 24 i2 x3_1.toNatClampNeg) = (23 : Int32) then
     (f_X5_needKnown i1 (0 : Int32) M).bind fun q24 =>
     f_X8_readRest_126 i2 x3_1 q24.1 q24.2
   else
   if (M.1 24 i2 x3_1.toNatClampNeg) = (24 : Int32) then
     f_X8_readRest_126 i2 x3_1 (1 : Int32) M
   else
   if (M.1 24 i2 x3_1.toNatClampNeg) = (25 : Int32) then
     (f_X8_readTest i1 i2 x3_1 M).bind fun q27 =>
     if isB q27.1 = true then some (q27.1, q27.2) else none
   else
   if (M.1 24 i2 x3_1.toNatClampNeg) = (26 : Int32) then
     f_X8_readRest_126 i2 x3_1 (1 : Int32) M
   else
   if (M.1 24 i2 x3_1.toNatClampNeg) = (27 : Int32) then
     (f_X5_needNumber (1 : Int32) (99 : Int32) M).bind fun q31 =>
     f_X8_readRest_126 i2 x3_1 q31.1 q31.2
   else
     f_X8_readRest_126 i2 x3_1 (1 : Int32) M
  else none
set_option maxRecDepth 20000 in
set_option maxHeartbeats 2000000 in
theorem b_X8_readRest_126 {E : wEnv} {Y : YT} (C : Cx E Y cX8_readRest 5 RX8 5) {q : (Int32 × Mem)} (R : Rx E Y (some .boolean) (some (.int q.1)) q.2) {i2 : Nat} {x3 : Int32} {x4 : Int32} (hi2 : i2 < cnt 23) {M : Mem} (h : f_X8_readRest_126 i2 x3 x4 M = some q) : G E Y 5 M 126 [(0, .ref (ad E 30 0)), (2, .ref (ad E 23 i2)), (3, .int x3), (4, .int x4)] [] := by
  unfold f_X8_readRest_126 at h
  refine g_aload_n C dX8_readRest_126 rfl rfl ?_
  refine get_X8_94 C dX8_readRest_127 hi2 ?_
  refine g_iload_n C dX8_readRest_130 rfl rfl ?_
  refine g_aload_n C dX8_readRest_131 rfl rfl ?_
  refine get_X8_97 C dX8_readRest_132 (by decide) ?_
  obtain ⟨hb4, h⟩ := of_ite h
  refine st_25 (j := _) C dX8_readRest_135 (Nat.lt_of_lt_of_le hi2 (by decide : cnt 23 ≤ cnt 25)) hb4 rfl ?_
  refine g_iload C dX8_readRest_136 rfl ?_
  refine g_if_eq (tgt := 171) C dX8_readRest_138 (by decide) h (fun h => ?_) (fun h => ?_)
  · refine g_iload C dX8_readRest_171 rfl ?_
    obtain ⟨hz6, h⟩ := of_ite h
    exact g_zret C R dX8_readRest_173 (fst_of h) (isB_of hz6) (snd_of h)
  · refine g_aload_n C dX8_readRest_141 rfl rfl ?_
    refine get_X8_79 C dX8_readRest_142 hi2 ?_
    refine g_iload_n C dX8_readRest_145 rfl rfl ?_
    obtain ⟨hb7, h⟩ := of_ite h
    refine ld_24 (j := _) C dX8_readRest_146 (Nat.lt_of_lt_of_le hi2 (by decide : cnt 23 ≤ cnt 24)) hb7 rfl ?_
    refine g_bipush (v := (23 : Int32)) C dX8_readRest_147 (by decide) ?_
    refine g_icmp_ne (tgt := 171) C dX8_readRest_149 (by decide) h (fun h => ?_) (fun h => ?_)
    · refine g_iload C dX8_readRest_171 rfl ?_
      obtain ⟨hz8, h⟩ := of_ite h
      exact g_zret C R dX8_readRest_173 (fst_of h) (isB_of hz8) (snd_of h)
    · refine g_aload_n C dX8_readRest_152 rfl rfl ?_
      refine get_X8_100 C dX8_readRest_153 hi2 ?_
      refine g_iload_n C dX8_readRest_156 rfl rfl ?_
      refine g_aload_n C dX8_readRest_157 rfl rfl ?_
      refine g_iconst (v := (2 : Int32)) C dX8_readRest_158 (by decide) ?_
      obtain ⟨q9, hr9, h⟩ := Option.bind_eq_some_iff.mp h
      refine call_X8_103 C dX8_readRest_159 (by decide) (c_X5_takeWord E hr9) (by decide) rfl ?_
      refine g_if_eq (tgt := 169) C dX8_readRest_162 (by decide) h (fun h => ?_) (fun h => ?_)
      · refine g_iconst (v := (1 : Int32)) C dX8_readRest_169 (by decide) ?_
        obtain ⟨hb10, h⟩ := of_ite h
        refine st_27 (j := _) C dX8_readRest_170 (Nat.lt_of_lt_of_le hi2 (by decide : cnt 23 ≤ cnt 27)) hb10 rfl ?_
        refine g_iload C dX8_readRest_171 rfl ?_
        obtain ⟨hz12, h⟩ := of_ite h
        exact g_zret C R dX8_readRest_173 (fst_of h) (isB_of hz12) (snd_of h)
      · refine g_iconst (v := (-1 : Int32)) C dX8_readRest_165 (by decide) ?_
        refine g_goto (tgt := 170) C dX8_readRest_166 (by decide) ?_
        obtain ⟨hb13, h⟩ := of_ite h
        refine st_27 (j := _) C dX8_readRest_170 (Nat.lt_of_lt_of_le hi2 (by decide : cnt 23 ≤ cnt 27)) hb13 rfl ?_
        refine g_iload C dX8_readRest_171 rfl ?_
        obtain ⟨hz15, h⟩ := of_ite h
        exact g_zret C R dX8_readRest_173 (fst_of h) (isB_of hz15) (snd_of h)
set_option maxRecDepth 20000 in
set_option maxHeartbeats 2000000 in
theorem c_X8_readRest (E : wEnv) {i1 : Nat} {i2 : Nat} {M : Mem} {q : (Int32 × Mem)} (hi1 : i1 < cnt 8) (hi2 : i2 < cnt 23) (h : f_X8_readRest i1 i2 M = some q) : Mt E yX8_readRest cX8_readRest 5 (some .boolean) 5 [.ref (ad E 30 0), .ref (ad E 8 i1), .ref (ad E 23 i2)] M (some (.int q.1)) q.2 := by
  unfold f_X8_readRest at h
  refine mt_intro (own := RX8) (lv0 := [(0, .ref (ad E 30 0)), (1, .ref (ad E 8 i1)), (2, .ref (ad E 23 i2))]) (by decide) rfl rfl rfl (fun Y C R => ?_)
  refine g_aload_n C dX8_readRest_0 rfl rfl ?_
  refine get_X8_76 C dX8_readRest_1 hi2 ?_
  refine g_iconst (v := (1 : Int32)) C dX8_readRest_4 (by decide) ?_
  refine g_isub C dX8_readRest_5 ?_
  refine g_istore_n C dX8_readRest_6 rfl rfl ?_
  refine g_iconst (v := (1 : Int32)) C dX8_readRest_7 (by decide) ?_
  refine g_istore C dX8_readRest_8 rfl ?_
  refine g_aload_n C dX8_readRest_10 rfl rfl ?_
  refine get_X8_79 C dX8_readRest_11 hi2 ?_
  refine g_iload_n C dX8_readRest_14 rfl rfl ?_
  obtain ⟨hb2, h⟩ := of_ite h
  refine ld_24 (j := _) C dX8_readRest_15 (Nat.lt_of_lt_of_le hi2 (by decide : cnt 23 ≤ cnt 24)) hb2 rfl ?_
  rcases of_ites h with ⟨c16, h⟩ | ⟨c16, h⟩
  · refine g_tabIn (v := (18 : Int32)) (tgt := 72) C dX8_readRest_16 c16 (by decide) (by decide) rfl (by decide) ?_
    refine g_aload_n C dX8_readRest_72 rfl rfl ?_
    refine g_aload_n C dX8_readRest_73 rfl rfl ?_
    refine g_iconst (v := (1 : Int32)) C dX8_readRest_74 (by decide) ?_
    obtain ⟨q3, hr3, h⟩ := Option.bind_eq_some_iff.mp h
    refine call_X8_82 C dX8_readRest_75 (by decide) (c_X5_needKnown E hi1 hr3) (by decide) rfl ?_
    refine g_istore C dX8_readRest_78 rfl ?_
    refine g_goto (tgt := 126) C dX8_readRest_80 (by decide) ?_
    exact g_sub (b_X8_readRest_126 C R hi2 h) ⟨rfl, rfl, rfl, rfl, trivial⟩
  · rcases of_ites h with ⟨c18, h⟩ | ⟨c18, h⟩
    · refine g_tabIn (v := (19 : Int32)) (tgt := 83) C dX8_readRest_16 c18 (by decide) (by decide) rfl (by decide) ?_
      refine g_aload_n C dX8_readRest_83 rfl rfl ?_
      refine g_iconst (v := (1 : Int32)) C dX8_readRest_84 (by decide) ?_
      refine g_bipush (v := (99 : Int32)) C dX8_readRest_85 (by decide) ?_
      obtain ⟨q17, hr17, h⟩ := Option.bind_eq_some_iff.mp h
      refine call_X8_86 C dX8_readRest_87 (by decide) (c_X5_needNumber E hr17) (by decide) rfl ?_
      refine g_istore C dX8_readRest_90 rfl ?_
      refine g_goto (tgt := 126) C dX8_readRest_92 (by decide) ?_
      exact g_sub (b_X8_readRest_126 C R hi2 h) ⟨rfl, rfl, rfl, rfl, trivial⟩
    · rcases of_ites h with ⟨c19, h⟩ | ⟨c19, h⟩
      · refine g_tabIn (v := (20 : Int32)) (tgt := 126) C dX8_readRest_16 c19 (by decide) (by decide) rfl (by decide) ?_
        exact g_sub (b_X8_readRest_126 C R hi2 h) ⟨rfl, rfl, rfl, rfl, trivial⟩
      · rcases of_ites h with ⟨c21, h⟩ | ⟨c21, h⟩
        · refine g_tabIn (v := (21 : Int32)) (tgt := 107) C dX8_readRest_16 c21 (by decide) (by decide) rfl (by decide) ?_
          refine g_aload_n C dX8_readRest_107 rfl rfl ?_
          refine g_aload_n C dX8_readRest_108 rfl rfl ?_
          refine g_iconst (v := (0 : Int32)) C dX8_readRest_109 (by decide) ?_
          obtain ⟨q20, hr20, h⟩ := Option.bind_eq_some_iff.mp h
          refine call_X8_82 C dX8_readRest_110 (by decide) (c_X5_needKnown E hi1 hr20) (by decide) rfl ?_
          refine g_istore C dX8_readRest_113 rfl ?_
          refine g_goto (tgt := 126) C dX8_readRest_115 (by decide) ?_
          exact g_sub (b_X8_readRest_126 C R hi2 h) ⟨rfl, rfl, rfl, rfl, trivial⟩
        · rcases of_ites h with ⟨c23, h⟩ | ⟨c23, h⟩
          · refine g_tabIn (v := (22 : Int32)) (tgt := 107) C dX8_readRest_16 c23 (by decide) (by decide) rfl (by decide) ?_
            refine g_aload_n C dX8_readRest_107 rfl rfl ?_
            refine g_aload_n C dX8_readRest_108 rfl rfl ?_
            refine g_iconst (v := (0 : Int32)) C dX8_readRest_109 (by decide) ?_
            obtain ⟨q22, hr22, h⟩ := Option.bind_eq_some_iff.mp h
            refine call_X8_82 C dX8_readRest_110 (by decide) (c_X5_needKnown E hi1 hr22) (by decide) rfl ?_
            refine g_istore C dX8_readRest_113 rfl ?_
            refine g_goto (tgt := 126) C dX8_readRest_115 (by decide) ?_
            exact g_sub (b_X8_readRest_126 C R hi2 h) ⟨rfl, rfl, rfl, rfl, trivial⟩
          · rcases of_ites h with ⟨c25, h⟩ | ⟨c25, h⟩
            · refine g_tabIn (v := (23 : Int32)) (tgt := 107) C dX8_readRest_16 c25 (by decide) (by decide) rfl (by decide) ?_
              refine g_aload_n C dX8_readRest_107 rfl rfl ?_
              refine g_aload_n C dX8_readRest_108 rfl rfl ?_
              refine g_iconst (v := (0 : Int32)) C dX8_readRest_109 (by decide) ?_
              obtain ⟨q24, hr24, h⟩ := Option.bind_eq_some_iff.mp h
              refine call_X8_82 C dX8_readRest_110 (by decide) (c_X5_needKnown E hi1 hr24) (by decide) rfl ?_
              refine g_istore C dX8_readRest_113 rfl ?_
              refine g_goto (tgt := 126) C dX8_readRest_115 (by decide) ?_
              exact g_sub (b_X8_readRest_126 C R hi2 h) ⟨rfl, rfl, rfl, rfl, trivial⟩
            · rcases of_ites h with ⟨c26, h⟩ | ⟨c26, h⟩
              · refine g_tabIn (v := (24 : Int32)) (tgt := 126) C dX8_readRest_16 c26 (by decide) (by decide) rfl (by decide) ?_
                exact g_sub (b_X8_readRest_126 C R hi2 h) ⟨rfl, rfl, rfl, rfl, trivial⟩
              · rcases of_ites h with ⟨c29, h⟩ | ⟨c29, h⟩
                · refine g_tabIn (v := (25 : Int32)) (tgt := 118) C dX8_readRest_16 c29 (by decide) (by decide) rfl (by decide) ?_
                  refine g_aload_n C dX8_readRest_118 rfl rfl ?_
                  refine g_aload_n C dX8_readRest_119 rfl rfl ?_
                  refine g_aload_n C dX8_readRest_120 rfl rfl ?_
                  refine g_iload_n C dX8_readRest_121 rfl rfl ?_
                  obtain ⟨q27, hr27, h⟩ := Option.bind_eq_some_iff.mp h
                  refine call_X8_90 C dX8_readRest_122 (c_X8_readTest E hi1 hi2 hr27) (by decide) rfl ?_
                  obtain ⟨hz28, h⟩ := of_ite h
                  exact g_zret C R dX8_readRest_125 (fst_of h) (isB_of hz28) (snd_of h)
                · rcases of_ites h with ⟨c30, h⟩ | ⟨c30, h⟩
                  · refine g_tabIn (v := (26 : Int32)) (tgt := 126) C dX8_readRest_16 c30 (by decide) (by decide) rfl (by decide) ?_
                    exact g_sub (b_X8_readRest_126 C R hi2 h) ⟨rfl, rfl, rfl, rfl, trivial⟩
                  · rcases of_ites h with ⟨c32, h⟩ | ⟨c32, h⟩
                    · refine g_tabIn (v := (27 : Int32)) (tgt := 95) C dX8_readRest_16 c32 (by decide) (by decide) rfl (by decide) ?_
                      refine g_aload_n C dX8_readRest_95 rfl rfl ?_
                      refine g_iconst (v := (1 : Int32)) C dX8_readRest_96 (by decide) ?_
                      refine g_bipush (v := (99 : Int32)) C dX8_readRest_97 (by decide) ?_
                      obtain ⟨q31, hr31, h⟩ := Option.bind_eq_some_iff.mp h
                      refine call_X8_86 C dX8_readRest_99 (by decide) (c_X5_needNumber E hr31) (by decide) rfl ?_
                      refine g_istore C dX8_readRest_102 rfl ?_
                      refine g_goto (tgt := 126) C dX8_readRest_104 (by decide) ?_
                      exact g_sub (b_X8_readRest_126 C R hi2 h) ⟨rfl, rfl, rfl, rfl, trivial⟩
                    · refine g_tabOut (n := 10) (tgt := 126) C dX8_readRest_16 ⟨c16, c18, c19, c21, c23, c25, c26, c29, c30, c32, trivial⟩ (by decide) (by decide) ?_
                      exact g_sub (b_X8_readRest_126 C R hi2 h) ⟨rfl, rfl, rfl, rfl, trivial⟩
noncomputable def f_X8_readWeeks_24 (x2 : Int32) (i3 : Nat) (i4 : Nat) : Nat → Int32 → Mem → Option Mem
  | 0, _, _ => none
  | n + 1, x5, M =>
  if x2 < x5 then
    if 0 < (M.1 34 0 1) then
      (f_X5_fail (2 : Int32) M).bind fun q5 =>
      some q5.2
    else
      some M
  else
    if (M.1 30 0 10) = 0 then
      if (M.1 30 0 6) = 0 then
        if 0 < (M.1 34 0 1) then
          (f_X5_fail (2 : Int32) M).bind fun q7 =>
          some q7.2
        else
          some M
      else
        (f_X5_word M).bind fun r8 =>
        if r8 = (28 : Int32) then
          (f_X8_closes i4 M).bind fun q14 =>
          if q14.1 = 0 then
            f_X8_readWeeks_24 x2 i3 i4 n (x5 + (1 : Int32)) q14.2
          else
            (f_X5_needStop q14.2).bind fun q15 =>
            f_X8_readWeeks_24 x2 i3 i4 n (x5 + (1 : Int32)) q15.2
        else
          (f_X8_begins i4 M).bind fun q9 =>
          if q9.1 = 0 then
            if (0 : Int32) = 0 then
              f_X8_readWeeks_24 x2 i3 i4 n (x5 + (1 : Int32)) q9.2
            else
              (f_X5_needStop q9.2).bind fun q10 =>
              f_X8_readWeeks_24 x2 i3 i4 n (x5 + (1 : Int32)) q10.2
          else
            (f_X8_readRest i3 i4 q9.2).bind fun q11 =>
            if q11.1 = 0 then
              if (0 : Int32) = 0 then
                f_X8_readWeeks_24 x2 i3 i4 n (x5 + (1 : Int32)) q11.2
              else
                (f_X5_needStop q11.2).bind fun q12 =>
                f_X8_readWeeks_24 x2 i3 i4 n (x5 + (1 : Int32)) q12.2
            else
              if (1 : Int32) = 0 then
                f_X8_readWeeks_24 x2 i3 i4 n (x5 + (1 : Int32)) q11.2
              else
                (f_X5_needStop q11.2).bind fun q13 =>
                f_X8_readWeeks_24 x2 i3 i4 n (x5 + (1 : Int32)) q13.2
    else
      if 0 < (M.1 34 0 1) then
        (f_X5_fail (2 : Int32) M).bind fun q6 =>
        some q6.2
      else
        some M
noncomputable def f_X8_readWeeks (x2 : Int32) (i3 : Nat) (i4 : Nat) (M : Mem) : Option Mem :=
  (f_X7_clear i4 M).bind fun M1 =>
  let M2 := sR M1 23 i4 (upd (M1.1 23 i4) 8 (1 : Int32))
  let M3 := sR M2 34 0 (upd (M2.1 34 0) 1 (0 : Int32))
  (f_X5_begin x2 M3).bind fun M4 =>
  f_X8_readWeeks_24 x2 i3 i4 FU (0 : Int32) M4
set_option maxRecDepth 20000 in
set_option maxHeartbeats 2000000 in
theorem b_X8_readWeeks_24 {E : wEnv} {Y : YT} (C : Cx E Y cX8_readWeeks 7 RX8 6) {q : Mem} (R : Rx E Y none none q) {x2 : Int32} {i3 : Nat} {i4 : Nat} (hi3 : i3 < cnt 8) (hi4 : i4 < cnt 23) (n : Nat) : ∀ {x5 : Int32} {M : Mem} (_ : f_X8_readWeeks_24 x2 i3 i4 n x5 M = some q), G E Y 7 M 24 [(0, .ref (ad E 34 0)), (1, .ref (ad E 30 0)), (2, .int x2), (3, .ref (ad E 8 i3)), (4, .ref (ad E 23 i4)), (5, .int x5)] [] := by
  induction n with
  | zero =>
    intro x5 M h
    cases (show none = some q from h)
  | succ n ih =>
    intro x5 M h
    rw [f_X8_readWeeks_24] at h
    refine g_iload C dX8_readWeeks_24 rfl ?_
    refine g_iload_n C dX8_readWeeks_26 rfl rfl ?_
    refine g_icmp_gt (tgt := 106) C dX8_readWeeks_27 (by decide) h (fun h => ?_) (fun h => ?_)
    · refine g_aload_n C dX8_readWeeks_106 rfl rfl ?_
      refine get_X8_15 C dX8_readWeeks_107 (by decide) ?_
      refine g_if_le (tgt := 119) C dX8_readWeeks_110 (by decide) h (fun h => ?_) (fun h => ?_)
      · exact g_vret C R dX8_readWeeks_119 (Option.some.inj h)
      · refine g_aload_n C dX8_readWeeks_113 rfl rfl ?_
        refine g_iconst (v := (2 : Int32)) C dX8_readWeeks_114 (by decide) ?_
        obtain ⟨q5, hr5, h⟩ := Option.bind_eq_some_iff.mp h
        refine call_X8_59 C dX8_readWeeks_115 (by decide) (c_X5_fail E hr5) (by decide) rfl ?_
        refine g_pop C dX8_readWeeks_118 rfl ?_
        exact g_vret C R dX8_readWeeks_119 (Option.some.inj h)
    · refine g_aload_n C dX8_readWeeks_30 rfl rfl ?_
      refine get_X8_34 C dX8_readWeeks_31 (by decide) ?_
      refine g_if_ne (tgt := 106) C dX8_readWeeks_34 (by decide) h (fun h => ?_) (fun h => ?_)
      · refine g_aload_n C dX8_readWeeks_106 rfl rfl ?_
        refine get_X8_15 C dX8_readWeeks_107 (by decide) ?_
        refine g_if_le (tgt := 119) C dX8_readWeeks_110 (by decide) h (fun h => ?_) (fun h => ?_)
        · exact g_vret C R dX8_readWeeks_119 (Option.some.inj h)
        · refine g_aload_n C dX8_readWeeks_113 rfl rfl ?_
          refine g_iconst (v := (2 : Int32)) C dX8_readWeeks_114 (by decide) ?_
          obtain ⟨q6, hr6, h⟩ := Option.bind_eq_some_iff.mp h
          refine call_X8_59 C dX8_readWeeks_115 (by decide) (c_X5_fail E hr6) (by decide) rfl ?_
          refine g_pop C dX8_readWeeks_118 rfl ?_
          exact g_vret C R dX8_readWeeks_119 (Option.some.inj h)
      · refine g_aload_n C dX8_readWeeks_37 rfl rfl ?_
        refine get_X8_37 C dX8_readWeeks_38 (by decide) ?_
        refine g_if_eq (tgt := 106) C dX8_readWeeks_41 (by decide) h (fun h => ?_) (fun h => ?_)
        · refine g_aload_n C dX8_readWeeks_106 rfl rfl ?_
          refine get_X8_15 C dX8_readWeeks_107 (by decide) ?_
          refine g_if_le (tgt := 119) C dX8_readWeeks_110 (by decide) h (fun h => ?_) (fun h => ?_)
          · exact g_vret C R dX8_readWeeks_119 (Option.some.inj h)
          · refine g_aload_n C dX8_readWeeks_113 rfl rfl ?_
            refine g_iconst (v := (2 : Int32)) C dX8_readWeeks_114 (by decide) ?_
            obtain ⟨q7, hr7, h⟩ := Option.bind_eq_some_iff.mp h
            refine call_X8_59 C dX8_readWeeks_115 (by decide) (c_X5_fail E hr7) (by decide) rfl ?_
            refine g_pop C dX8_readWeeks_118 rfl ?_
            exact g_vret C R dX8_readWeeks_119 (Option.some.inj h)
        · refine g_aload_n C dX8_readWeeks_44 rfl rfl ?_
          obtain ⟨r8, hr8, h⟩ := Option.bind_eq_some_iff.mp h
          refine call_X8_40 C dX8_readWeeks_45 (by decide) (c_X5_word E hr8) (by decide) rfl ?_
          refine g_bipush (v := (28 : Int32)) C dX8_readWeeks_48 (by decide) ?_
          refine g_icmp_ne (tgt := 63) C dX8_readWeeks_50 (by decide) h (fun h => ?_) (fun h => ?_)
          · refine g_aload_n C dX8_readWeeks_63 rfl rfl ?_
            refine g_aload_n C dX8_readWeeks_64 rfl rfl ?_
            refine g_aload C dX8_readWeeks_65 rfl ?_
            obtain ⟨q9, hr9, h⟩ := Option.bind_eq_some_iff.mp h
            refine call_X8_48 C dX8_readWeeks_67 (by decide) (c_X8_begins E hi4 hr9) (by decide) rfl ?_
            refine g_if_eq (tgt := 87) C dX8_readWeeks_70 (by decide) h (fun h => ?_) (fun h => ?_)
            · refine g_iconst (v := (0 : Int32)) C dX8_readWeeks_87 (by decide) ?_
              refine g_istore C dX8_readWeeks_88 rfl ?_
              refine g_iload C dX8_readWeeks_90 rfl ?_
              refine g_if_eq (tgt := 100) C dX8_readWeeks_92 (by decide) h (fun h => ?_) (fun h => ?_)
              · refine g_iinc (w := (1 : Int32)) C dX8_readWeeks_100 rfl (by decide) rfl ?_
                refine g_goto (tgt := 24) C dX8_readWeeks_103 (by decide) ?_
                exact g_sub (ih h) ⟨rfl, rfl, rfl, rfl, rfl, rfl, trivial⟩
              · refine g_aload_n C dX8_readWeeks_95 rfl rfl ?_
                obtain ⟨q10, hr10, h⟩ := Option.bind_eq_some_iff.mp h
                refine call_X8_55 C dX8_readWeeks_96 (by decide) (c_X5_needStop E hr10) (by decide) rfl ?_
                refine g_pop C dX8_readWeeks_99 rfl ?_
                refine g_iinc (w := (1 : Int32)) C dX8_readWeeks_100 rfl (by decide) rfl ?_
                refine g_goto (tgt := 24) C dX8_readWeeks_103 (by decide) ?_
                exact g_sub (ih h) ⟨rfl, rfl, rfl, rfl, rfl, rfl, trivial⟩
            · refine g_aload_n C dX8_readWeeks_73 rfl rfl ?_
              refine g_aload_n C dX8_readWeeks_74 rfl rfl ?_
              refine g_aload C dX8_readWeeks_75 rfl ?_
              obtain ⟨q11, hr11, h⟩ := Option.bind_eq_some_iff.mp h
              refine call_X8_51 C dX8_readWeeks_77 (c_X8_readRest E hi3 hi4 hr11) (by decide) rfl ?_
              refine g_if_eq (tgt := 87) C dX8_readWeeks_80 (by decide) h (fun h => ?_) (fun h => ?_)
              · refine g_iconst (v := (0 : Int32)) C dX8_readWeeks_87 (by decide) ?_
                refine g_istore C dX8_readWeeks_88 rfl ?_
                refine g_iload C dX8_readWeeks_90 rfl ?_
                refine g_if_eq (tgt := 100) C dX8_readWeeks_92 (by decide) h (fun h => ?_) (fun h => ?_)
                · refine g_iinc (w := (1 : Int32)) C dX8_readWeeks_100 rfl (by decide) rfl ?_
                  refine g_goto (tgt := 24) C dX8_readWeeks_103 (by decide) ?_
                  exact g_sub (ih h) ⟨rfl, rfl, rfl, rfl, rfl, rfl, trivial⟩
                · refine g_aload_n C dX8_readWeeks_95 rfl rfl ?_
                  obtain ⟨q12, hr12, h⟩ := Option.bind_eq_some_iff.mp h
                  refine call_X8_55 C dX8_readWeeks_96 (by decide) (c_X5_needStop E hr12) (by decide) rfl ?_
                  refine g_pop C dX8_readWeeks_99 rfl ?_
                  refine g_iinc (w := (1 : Int32)) C dX8_readWeeks_100 rfl (by decide) rfl ?_
                  refine g_goto (tgt := 24) C dX8_readWeeks_103 (by decide) ?_
                  exact g_sub (ih h) ⟨rfl, rfl, rfl, rfl, rfl, rfl, trivial⟩
              · refine g_iconst (v := (1 : Int32)) C dX8_readWeeks_83 (by decide) ?_
                refine g_goto (tgt := 88) C dX8_readWeeks_84 (by decide) ?_
                refine g_istore C dX8_readWeeks_88 rfl ?_
                refine g_iload C dX8_readWeeks_90 rfl ?_
                refine g_if_eq (tgt := 100) C dX8_readWeeks_92 (by decide) h (fun h => ?_) (fun h => ?_)
                · refine g_iinc (w := (1 : Int32)) C dX8_readWeeks_100 rfl (by decide) rfl ?_
                  refine g_goto (tgt := 24) C dX8_readWeeks_103 (by decide) ?_
                  exact g_sub (ih h) ⟨rfl, rfl, rfl, rfl, rfl, rfl, trivial⟩
                · refine g_aload_n C dX8_readWeeks_95 rfl rfl ?_
                  obtain ⟨q13, hr13, h⟩ := Option.bind_eq_some_iff.mp h
                  refine call_X8_55 C dX8_readWeeks_96 (by decide) (c_X5_needStop E hr13) (by decide) rfl ?_
                  refine g_pop C dX8_readWeeks_99 rfl ?_
                  refine g_iinc (w := (1 : Int32)) C dX8_readWeeks_100 rfl (by decide) rfl ?_
                  refine g_goto (tgt := 24) C dX8_readWeeks_103 (by decide) ?_
                  exact g_sub (ih h) ⟨rfl, rfl, rfl, rfl, rfl, rfl, trivial⟩
          · refine g_aload_n C dX8_readWeeks_53 rfl rfl ?_
            refine g_aload_n C dX8_readWeeks_54 rfl rfl ?_
            refine g_aload C dX8_readWeeks_55 rfl ?_
            obtain ⟨q14, hr14, h⟩ := Option.bind_eq_some_iff.mp h
            refine call_X8_44 C dX8_readWeeks_57 (by decide) (c_X8_closes E hi4 hr14) (by decide) rfl ?_
            refine g_goto (tgt := 88) C dX8_readWeeks_60 (by decide) ?_
            refine g_istore C dX8_readWeeks_88 rfl ?_
            refine g_iload C dX8_readWeeks_90 rfl ?_
            refine g_if_eq (tgt := 100) C dX8_readWeeks_92 (by decide) h (fun h => ?_) (fun h => ?_)
            · refine g_iinc (w := (1 : Int32)) C dX8_readWeeks_100 rfl (by decide) rfl ?_
              refine g_goto (tgt := 24) C dX8_readWeeks_103 (by decide) ?_
              exact g_sub (ih h) ⟨rfl, rfl, rfl, rfl, rfl, rfl, trivial⟩
            · refine g_aload_n C dX8_readWeeks_95 rfl rfl ?_
              obtain ⟨q15, hr15, h⟩ := Option.bind_eq_some_iff.mp h
              refine call_X8_55 C dX8_readWeeks_96 (by decide) (c_X5_needStop E hr15) (by decide) rfl ?_
              refine g_pop C dX8_readWeeks_99 rfl ?_
              refine g_iinc (w := (1 : Int32)) C dX8_readWeeks_100 rfl (by decide) rfl ?_
              refine g_goto (tgt := 24) C dX8_readWeeks_103 (by decide) ?_
              exact g_sub (ih h) ⟨rfl, rfl, rfl, rfl, rfl, rfl, trivial⟩
set_option maxRecDepth 20000 in
set_option maxHeartbeats 2000000 in
theorem c_X8_readWeeks (E : wEnv) {x2 : Int32} {i3 : Nat} {i4 : Nat} {M : Mem} {q : Mem} (hi3 : i3 < cnt 8) (hi4 : i4 < cnt 23) (h : f_X8_readWeeks x2 i3 i4 M = some q) : Mt E yX8_readWeeks cX8_readWeeks 7 none 6 [.ref (ad E 34 0), .ref (ad E 30 0), .int x2, .ref (ad E 8 i3), .ref (ad E 23 i4)] M none q := by
  unfold f_X8_readWeeks at h
  refine mt_intro (own := RX8) (lv0 := [(0, .ref (ad E 34 0)), (1, .ref (ad E 30 0)), (2, .int x2), (3, .ref (ad E 8 i3)), (4, .ref (ad E 23 i4))]) (by decide) rfl rfl rfl (fun Y C R => ?_)
  refine g_aload C dX8_readWeeks_0 rfl ?_
  obtain ⟨M1, hr1, h⟩ := Option.bind_eq_some_iff.mp h
  refine call_X8_19 C dX8_readWeeks_2 hi4 (c_X7_clear E hi4 hr1) (by decide) rfl ?_
  refine g_aload C dX8_readWeeks_5 rfl ?_
  refine g_iconst (v := (1 : Int32)) C dX8_readWeeks_7 (by decide) ?_
  refine put_X8_24 C dX8_readWeeks_8 hi4 (Or.inr rfl) ?_
  refine g_aload_n C dX8_readWeeks_11 rfl rfl ?_
  refine g_iconst (v := (0 : Int32)) C dX8_readWeeks_12 (by decide) ?_
  refine put_X8_15 C dX8_readWeeks_13 (by decide) ?_
  refine g_aload_n C dX8_readWeeks_16 rfl rfl ?_
  refine g_iload_n C dX8_readWeeks_17 rfl rfl ?_
  obtain ⟨M4, hr4, h⟩ := Option.bind_eq_some_iff.mp h
  refine call_X8_28 C dX8_readWeeks_18 (by decide) (c_X5_begin E hr4) (by decide) rfl ?_
  refine g_iconst (v := (0 : Int32)) C dX8_readWeeks_21 (by decide) ?_
  refine g_istore C dX8_readWeeks_22 rfl ?_
  exact g_sub (b_X8_readWeeks_24 C R hi3 hi4 _ h) ⟨rfl, rfl, rfl, rfl, rfl, rfl, trivial⟩
noncomputable def f_X9_copyFrom (i0 : Nat) (i1 : Nat) (M : Mem) : Option Mem :=
  (f_X1_copyFrom i0 i1 M).bind fun M1 =>
  (f_X3_copyFrom i0 i1 M1).bind fun M2 =>
  (f_X7_copyFrom i0 i1 M2).bind fun M3 =>
  some M3
set_option maxRecDepth 20000 in
set_option maxHeartbeats 2000000 in
theorem c_X9_copyFrom (E : wEnv) {i0 : Nat} {i1 : Nat} {M : Mem} {q : Mem} (hi0 : i0 < cnt 7) (hi1 : i1 < cnt 7) (h : f_X9_copyFrom i0 i1 M = some q) : Mt E yX9_copyFrom cX9_copyFrom 2 none 2 [.ref (ad E 7 i0), .ref (ad E 7 i1)] M none q := by
  unfold f_X9_copyFrom at h
  refine mt_intro (own := RX9) (lv0 := [(0, .ref (ad E 7 i0)), (1, .ref (ad E 7 i1))]) (by decide) rfl rfl rfl (fun Y C R => ?_)
  refine g_aload_n C dX9_copyFrom_0 rfl rfl ?_
  refine get_X9_10 C dX9_copyFrom_1 hi0 ?_
  refine g_aload_n C dX9_copyFrom_4 rfl rfl ?_
  refine get_X9_10 C dX9_copyFrom_5 hi1 ?_
  obtain ⟨M1, hr1, h⟩ := Option.bind_eq_some_iff.mp h
  refine call_X9_30 C dX9_copyFrom_8 (Nat.lt_of_lt_of_le hi0 (by decide : cnt 7 ≤ cnt 8)) (c_X1_copyFrom E (Nat.lt_of_lt_of_le hi0 (by decide : cnt 7 ≤ cnt 8)) (Nat.lt_of_lt_of_le hi1 (by decide : cnt 7 ≤ cnt 8)) hr1) (by decide) rfl ?_
  refine g_aload_n C dX9_copyFrom_11 rfl rfl ?_
  refine get_X9_19 C dX9_copyFrom_12 hi0 ?_
  refine g_aload_n C dX9_copyFrom_15 rfl rfl ?_
  refine get_X9_19 C dX9_copyFrom_16 hi1 ?_
  obtain ⟨M2, hr2, h⟩ := Option.bind_eq_some_iff.mp h
  refine call_X9_34 C dX9_copyFrom_19 (Nat.lt_of_lt_of_le hi0 (by decide : cnt 7 ≤ cnt 20)) (c_X3_copyFrom E (Nat.lt_of_lt_of_le hi0 (by decide : cnt 7 ≤ cnt 20)) (Nat.lt_of_lt_of_le hi1 (by decide : cnt 7 ≤ cnt 20)) hr2) (by decide) rfl ?_
  refine g_aload_n C dX9_copyFrom_22 rfl rfl ?_
  refine get_X9_26 C dX9_copyFrom_23 hi0 ?_
  refine g_aload_n C dX9_copyFrom_26 rfl rfl ?_
  refine get_X9_26 C dX9_copyFrom_27 hi1 ?_
  obtain ⟨M3, hr3, h⟩ := Option.bind_eq_some_iff.mp h
  refine call_X9_37 C dX9_copyFrom_30 (Nat.lt_of_lt_of_le hi0 (by decide : cnt 7 ≤ cnt 23)) (c_X7_copyFrom E (Nat.lt_of_lt_of_le hi0 (by decide : cnt 7 ≤ cnt 23)) (Nat.lt_of_lt_of_le hi1 (by decide : cnt 7 ≤ cnt 23)) hr3) (by decide) rfl ?_
  exact g_vret C R dX9_copyFrom_33 (Option.some.inj h)
noncomputable def f_X10_status (M : Mem) : Option Int32 :=
  some (M.1 0 0 14)
set_option maxRecDepth 20000 in
set_option maxHeartbeats 2000000 in
theorem c_X10_status (E : wEnv) {M : Mem} {q : Int32} (h : f_X10_status M = some q) : Mt E yX10_status cX10_status 1 (some .int) 0 [.ref (ad E 0 0)] M (some (.int q)) M := by
  unfold f_X10_status at h
  refine mt_intro (own := RX10) (lv0 := [(0, .ref (ad E 0 0))]) (by decide) rfl rfl rfl (fun Y C R => ?_)
  refine g_aload_n C dX10_status_0 rfl rfl ?_
  refine get_X10_94 C dX10_status_1 (by decide) ?_
  exact g_iret C R dX10_status_4 (Option.some.inj h) rfl
noncomputable def f_X10_top (M : Mem) : Option Int64 :=
  some (M.2 0 0 17)
set_option maxRecDepth 20000 in
set_option maxHeartbeats 2000000 in
theorem c_X10_top (E : wEnv) {M : Mem} {q : Int64} (h : f_X10_top M = some q) : Mt E yX10_top cX10_top 1 (some .long) 0 [.ref (ad E 0 0)] M (some (.long q)) M := by
  unfold f_X10_top at h
  refine mt_intro (own := RX10) (lv0 := [(0, .ref (ad E 0 0))]) (by decide) rfl rfl rfl (fun Y C R => ?_)
  refine g_aload_n C dX10_top_0 rfl rfl ?_
  refine get_X10_103 C dX10_top_1 (by decide) ?_
  exact g_lret C R dX10_top_4 (Option.some.inj h) rfl
noncomputable def f_X10_bottom (M : Mem) : Option Int64 :=
  some (M.2 0 0 18)
set_option maxRecDepth 20000 in
set_option maxHeartbeats 2000000 in
theorem c_X10_bottom (E : wEnv) {M : Mem} {q : Int64} (h : f_X10_bottom M = some q) : Mt E yX10_bottom cX10_bottom 1 (some .long) 0 [.ref (ad E 0 0)] M (some (.long q)) M := by
  unfold f_X10_bottom at h
  refine mt_intro (own := RX10) (lv0 := [(0, .ref (ad E 0 0))]) (by decide) rfl rfl rfl (fun Y C R => ?_)
  refine g_aload_n C dX10_bottom_0 rfl rfl ?_
  refine get_X10_107 C dX10_bottom_1 (by decide) ?_
  exact g_lret C R dX10_bottom_4 (Option.some.inj h) rfl
noncomputable def f_X10_isTray (x0 : Int32) : Option Int32 :=
  if x0 < 0 then
    some (0 : Int32)
  else
    if x0 < (4 : Int32) then
      some (1 : Int32)
    else
      some (0 : Int32)
set_option maxRecDepth 20000 in
set_option maxHeartbeats 2000000 in
theorem c_X10_isTray (E : wEnv) {x0 : Int32} {M : Mem} {q : Int32} (h : f_X10_isTray x0 = some q) : Mt E yX10_isTray cX10_isTray 1 (some .boolean) 0 [.int x0] M (some (.int q)) M := by
  unfold f_X10_isTray at h
  refine mt_intro (own := RX10) (lv0 := [(0, .int x0)]) (by decide) rfl rfl rfl (fun Y C R => ?_)
  refine g_iload_n C dX10_isTray_0 rfl rfl ?_
  refine g_if_lt (tgt := 13) C dX10_isTray_1 (by decide) h (fun h => ?_) (fun h => ?_)
  · refine g_iconst (v := (0 : Int32)) C dX10_isTray_13 (by decide) ?_
    exact g_zret C R dX10_isTray_14 (Option.some.inj h) (Or.inl rfl) rfl
  · refine g_iload_n C dX10_isTray_4 rfl rfl ?_
    refine g_iconst (v := (4 : Int32)) C dX10_isTray_5 (by decide) ?_
    refine g_icmp_ge (tgt := 13) C dX10_isTray_6 (by decide) h (fun h => ?_) (fun h => ?_)
    · refine g_iconst (v := (0 : Int32)) C dX10_isTray_13 (by decide) ?_
      exact g_zret C R dX10_isTray_14 (Option.some.inj h) (Or.inl rfl) rfl
    · refine g_iconst (v := (1 : Int32)) C dX10_isTray_9 (by decide) ?_
      refine g_goto (tgt := 14) C dX10_isTray_10 (by decide) ?_
      exact g_zret C R dX10_isTray_14 (Option.some.inj h) (Or.inr rfl) rfl
noncomputable def f_X10_refuse (x1 : Int32) (M : Mem) : Option (Int32 × Mem) :=
  let M1 := sR M 0 0 (upd (M.1 0 0) 14 x1)
  some ((0 : Int32), M1)
set_option maxRecDepth 20000 in
set_option maxHeartbeats 2000000 in
theorem c_X10_refuse (E : wEnv) {x1 : Int32} {M : Mem} {q : (Int32 × Mem)} (h : f_X10_refuse x1 M = some q) : Mt E yX10_refuse cX10_refuse 2 (some .boolean) 0 [.ref (ad E 0 0), .int x1] M (some (.int q.1)) q.2 := by
  unfold f_X10_refuse at h
  refine mt_intro (own := RX10) (lv0 := [(0, .ref (ad E 0 0)), (1, .int x1)]) (by decide) rfl rfl rfl (fun Y C R => ?_)
  refine g_aload_n C dX10_refuse_0 rfl rfl ?_
  refine g_iload_n C dX10_refuse_1 rfl rfl ?_
  refine put_X10_94 C dX10_refuse_2 (by decide) ?_
  refine g_iconst (v := (0 : Int32)) C dX10_refuse_5 (by decide) ?_
  exact g_zret C R dX10_refuse_6 (fst_of h) (Or.inl rfl) (snd_of h)
noncomputable def f_X10_agree (M : Mem) : Option (Int32 × Mem) :=
  let M1 := sR M 0 0 (upd (M.1 0 0) 14 (0 : Int32))
  some ((1 : Int32), M1)
set_option maxRecDepth 20000 in
set_option maxHeartbeats 2000000 in
theorem c_X10_agree (E : wEnv) {M : Mem} {q : (Int32 × Mem)} (h : f_X10_agree M = some q) : Mt E yX10_agree cX10_agree 1 (some .boolean) 0 [.ref (ad E 0 0)] M (some (.int q.1)) q.2 := by
  unfold f_X10_agree at h
  refine mt_intro (own := RX10) (lv0 := [(0, .ref (ad E 0 0))]) (by decide) rfl rfl rfl (fun Y C R => ?_)
  refine g_aload_n C dX10_agree_0 rfl rfl ?_
  refine g_iconst (v := (0 : Int32)) C dX10_agree_1 (by decide) ?_
  refine put_X10_94 C dX10_agree_2 (by decide) ?_
  refine g_iconst (v := (1 : Int32)) C dX10_agree_5 (by decide) ?_
  exact g_zret C R dX10_agree_6 (fst_of h) (Or.inr rfl) (snd_of h)
noncomputable def f_X10_tray (x1 : Int32) (x2 : Int32) (x3 : Int32) (M : Mem) : Option (Int32 × Mem) :=
  (f_X10_isTray x1).bind fun r1 =>
  if r1 = 0 then
    (f_X10_refuse (1 : Int32) M).bind fun q2 =>
    if isB q2.1 = true then some (q2.1, q2.2) else none
  else
    if x2 < 0 then
      (f_X10_refuse (1 : Int32) M).bind fun q4 =>
      if isB q4.1 = true then some (q4.1, q4.2) else none
    else
      if x2 < (4 : Int32) then
        if (60 : Int32) < x3 then
          (f_X10_refuse (5 : Int32) M).bind fun q11 =>
          if isB q11.1 = true then some (q11.1, q11.2) else none
        else
          if x3 < 0 then
            (f_X10_refuse (6 : Int32) M).bind fun q9 =>
            if isB q9.1 = true then some (q9.1, q9.2) else none
          else
            (f_X6_lay x1 x2 x3 M).bind fun M6 =>
            (f_X10_agree M6).bind fun q7 =>
            if isB q7.1 = true then some (q7.1, q7.2) else none
      else
        (f_X10_refuse (1 : Int32) M).bind fun q13 =>
        if isB q13.1 = true then some (q13.1, q13.2) else none
set_option maxRecDepth 20000 in
set_option maxHeartbeats 2000000 in
theorem c_X10_tray (E : wEnv) {x1 : Int32} {x2 : Int32} {x3 : Int32} {M : Mem} {q : (Int32 × Mem)} (h : f_X10_tray x1 x2 x3 M = some q) : Mt E yX10_tray cX10_tray 4 (some .boolean) 1 [.ref (ad E 0 0), .int x1, .int x2, .int x3] M (some (.int q.1)) q.2 := by
  unfold f_X10_tray at h
  refine mt_intro (own := RX10) (lv0 := [(0, .ref (ad E 0 0)), (1, .int x1), (2, .int x2), (3, .int x3)]) (by decide) rfl rfl rfl (fun Y C R => ?_)
  refine g_iload_n C dX10_tray_0 rfl rfl ?_
  obtain ⟨r1, hr1, h⟩ := Option.bind_eq_some_iff.mp h
  refine call_X10_110 C dX10_tray_1 (c_X10_isTray E hr1) (by decide) rfl ?_
  refine g_if_eq (tgt := 16) C dX10_tray_4 (by decide) h (fun h => ?_) (fun h => ?_)
  · refine g_aload_n C dX10_tray_16 rfl rfl ?_
    refine g_iconst (v := (1 : Int32)) C dX10_tray_17 (by decide) ?_
    obtain ⟨q2, hr2, h⟩ := Option.bind_eq_some_iff.mp h
    refine call_X10_114 C dX10_tray_18 (by decide) (c_X10_refuse E hr2) (by decide) rfl ?_
    obtain ⟨hz3, h⟩ := of_ite h
    exact g_zret C R dX10_tray_21 (fst_of h) (isB_of hz3) (snd_of h)
  · refine g_iload_n C dX10_tray_7 rfl rfl ?_
    refine g_if_lt (tgt := 16) C dX10_tray_8 (by decide) h (fun h => ?_) (fun h => ?_)
    · refine g_aload_n C dX10_tray_16 rfl rfl ?_
      refine g_iconst (v := (1 : Int32)) C dX10_tray_17 (by decide) ?_
      obtain ⟨q4, hr4, h⟩ := Option.bind_eq_some_iff.mp h
      refine call_X10_114 C dX10_tray_18 (by decide) (c_X10_refuse E hr4) (by decide) rfl ?_
      obtain ⟨hz5, h⟩ := of_ite h
      exact g_zret C R dX10_tray_21 (fst_of h) (isB_of hz5) (snd_of h)
    · refine g_iload_n C dX10_tray_11 rfl rfl ?_
      refine g_iconst (v := (4 : Int32)) C dX10_tray_12 (by decide) ?_
      refine g_icmp_lt (tgt := 22) C dX10_tray_13 (by decide) h (fun h => ?_) (fun h => ?_)
      · refine g_iload_n C dX10_tray_22 rfl rfl ?_
        refine g_bipush (v := (60 : Int32)) C dX10_tray_23 (by decide) ?_
        refine g_icmp_le (tgt := 34) C dX10_tray_25 (by decide) h (fun h => ?_) (fun h => ?_)
        · refine g_iload_n C dX10_tray_34 rfl rfl ?_
          refine g_if_ge (tgt := 45) C dX10_tray_35 (by decide) h (fun h => ?_) (fun h => ?_)
          · refine g_aload_n C dX10_tray_45 rfl rfl ?_
            refine get_X10_10 C dX10_tray_46 (by decide) ?_
            refine g_iload_n C dX10_tray_49 rfl rfl ?_
            refine g_iload_n C dX10_tray_50 rfl rfl ?_
            refine g_iload_n C dX10_tray_51 rfl rfl ?_
            obtain ⟨M6, hr6, h⟩ := Option.bind_eq_some_iff.mp h
            refine call_X10_117 C dX10_tray_52 (by decide) (c_X6_lay E hr6) (by decide) rfl ?_
            refine g_aload_n C dX10_tray_55 rfl rfl ?_
            obtain ⟨q7, hr7, h⟩ := Option.bind_eq_some_iff.mp h
            refine call_X10_121 C dX10_tray_56 (by decide) (c_X10_agree E hr7) (by decide) rfl ?_
            obtain ⟨hz8, h⟩ := of_ite h
            exact g_zret C R dX10_tray_59 (fst_of h) (isB_of hz8) (snd_of h)
          · refine g_aload_n C dX10_tray_38 rfl rfl ?_
            refine g_bipush (v := (6 : Int32)) C dX10_tray_39 (by decide) ?_
            obtain ⟨q9, hr9, h⟩ := Option.bind_eq_some_iff.mp h
            refine call_X10_114 C dX10_tray_41 (by decide) (c_X10_refuse E hr9) (by decide) rfl ?_
            obtain ⟨hz10, h⟩ := of_ite h
            exact g_zret C R dX10_tray_44 (fst_of h) (isB_of hz10) (snd_of h)
        · refine g_aload_n C dX10_tray_28 rfl rfl ?_
          refine g_iconst (v := (5 : Int32)) C dX10_tray_29 (by decide) ?_
          obtain ⟨q11, hr11, h⟩ := Option.bind_eq_some_iff.mp h
          refine call_X10_114 C dX10_tray_30 (by decide) (c_X10_refuse E hr11) (by decide) rfl ?_
          obtain ⟨hz12, h⟩ := of_ite h
          exact g_zret C R dX10_tray_33 (fst_of h) (isB_of hz12) (snd_of h)
      · refine g_aload_n C dX10_tray_16 rfl rfl ?_
        refine g_iconst (v := (1 : Int32)) C dX10_tray_17 (by decide) ?_
        obtain ⟨q13, hr13, h⟩ := Option.bind_eq_some_iff.mp h
        refine call_X10_114 C dX10_tray_18 (by decide) (c_X10_refuse E hr13) (by decide) rfl ?_
        obtain ⟨hz14, h⟩ := of_ite h
        exact g_zret C R dX10_tray_21 (fst_of h) (isB_of hz14) (snd_of h)
noncomputable def f_X10_wrongTray (x1 : Int32) (M : Mem) : Option Int32 :=
  (f_X10_isTray x1).bind fun r1 =>
  if r1 = 0 then
    some (1 : Int32)
  else
    (f_X6_isMissing x1 M).bind fun r2 =>
    if r2 = 0 then
      some (0 : Int32)
    else
      some (3 : Int32)
set_option maxRecDepth 20000 in
set_option maxHeartbeats 2000000 in
theorem c_X10_wrongTray (E : wEnv) {x1 : Int32} {M : Mem} {q : Int32} (h : f_X10_wrongTray x1 M = some q) : Mt E yX10_wrongTray cX10_wrongTray 2 (some .int) 1 [.ref (ad E 0 0), .int x1] M (some (.int q)) M := by
  unfold f_X10_wrongTray at h
  refine mt_intro (own := RX10) (lv0 := [(0, .ref (ad E 0 0)), (1, .int x1)]) (by decide) rfl rfl rfl (fun Y C R => ?_)
  refine g_iload_n C dX10_wrongTray_0 rfl rfl ?_
  obtain ⟨r1, hr1, h⟩ := Option.bind_eq_some_iff.mp h
  refine call_X10_110 C dX10_wrongTray_1 (c_X10_isTray E hr1) (by decide) rfl ?_
  refine g_if_ne (tgt := 9) C dX10_wrongTray_4 (by decide) h (fun h => ?_) (fun h => ?_)
  · refine g_aload_n C dX10_wrongTray_9 rfl rfl ?_
    refine get_X10_10 C dX10_wrongTray_10 (by decide) ?_
    refine g_iload_n C dX10_wrongTray_13 rfl rfl ?_
    obtain ⟨r2, hr2, h⟩ := Option.bind_eq_some_iff.mp h
    refine call_X10_141 C dX10_wrongTray_14 (by decide) (c_X6_isMissing E hr2) (by decide) rfl ?_
    refine g_if_eq (tgt := 24) C dX10_wrongTray_17 (by decide) h (fun h => ?_) (fun h => ?_)
    · refine g_iconst (v := (0 : Int32)) C dX10_wrongTray_24 (by decide) ?_
      exact g_iret C R dX10_wrongTray_25 (Option.some.inj h) rfl
    · refine g_iconst (v := (3 : Int32)) C dX10_wrongTray_20 (by decide) ?_
      refine g_goto (tgt := 25) C dX10_wrongTray_21 (by decide) ?_
      exact g_iret C R dX10_wrongTray_25 (Option.some.inj h) rfl
  · refine g_iconst (v := (1 : Int32)) C dX10_wrongTray_7 (by decide) ?_
    exact g_iret C R dX10_wrongTray_8 (Option.some.inj h) rfl
noncomputable def f_X10_wrongPlace (x1 : Int32) (x2 : Int32) (M : Mem) : Option Int32 :=
  (f_X10_wrongTray x1 M).bind fun r1 =>
  if r1 = 0 then
    (f_X6_holds x1 x2 (1 : Int32) M).bind fun r2 =>
    if r2 = 0 then
      some (4 : Int32)
    else
      some (0 : Int32)
  else
    some r1
set_option maxRecDepth 20000 in
set_option maxHeartbeats 2000000 in
theorem c_X10_wrongPlace (E : wEnv) {x1 : Int32} {x2 : Int32} {M : Mem} {q : Int32} (h : f_X10_wrongPlace x1 x2 M = some q) : Mt E yX10_wrongPlace cX10_wrongPlace 4 (some .int) 2 [.ref (ad E 0 0), .int x1, .int x2] M (some (.int q)) M := by
  unfold f_X10_wrongPlace at h
  refine mt_intro (own := RX10) (lv0 := [(0, .ref (ad E 0 0)), (1, .int x1), (2, .int x2)]) (by decide) rfl rfl rfl (fun Y C R => ?_)
  refine g_aload_n C dX10_wrongPlace_0 rfl rfl ?_
  refine g_iload_n C dX10_wrongPlace_1 rfl rfl ?_
  obtain ⟨r1, hr1, h⟩ := Option.bind_eq_some_iff.mp h
  refine call_X10_453 C dX10_wrongPlace_2 (by decide) (c_X10_wrongTray E hr1) (by decide) rfl ?_
  refine g_istore_n C dX10_wrongPlace_5 rfl rfl ?_
  refine g_iload_n C dX10_wrongPlace_6 rfl rfl ?_
  refine g_if_eq (tgt := 12) C dX10_wrongPlace_7 (by decide) h (fun h => ?_) (fun h => ?_)
  · refine g_aload_n C dX10_wrongPlace_12 rfl rfl ?_
    refine get_X10_10 C dX10_wrongPlace_13 (by decide) ?_
    refine g_iload_n C dX10_wrongPlace_16 rfl rfl ?_
    refine g_iload_n C dX10_wrongPlace_17 rfl rfl ?_
    refine g_iconst (v := (1 : Int32)) C dX10_wrongPlace_18 (by decide) ?_
    obtain ⟨r2, hr2, h⟩ := Option.bind_eq_some_iff.mp h
    refine call_X10_148 C dX10_wrongPlace_19 (by decide) (c_X6_holds E hr2) (by decide) rfl ?_
    refine g_if_eq (tgt := 29) C dX10_wrongPlace_22 (by decide) h (fun h => ?_) (fun h => ?_)
    · refine g_iconst (v := (4 : Int32)) C dX10_wrongPlace_29 (by decide) ?_
      exact g_iret C R dX10_wrongPlace_30 (Option.some.inj h) rfl
    · refine g_iconst (v := (0 : Int32)) C dX10_wrongPlace_25 (by decide) ?_
      refine g_goto (tgt := 30) C dX10_wrongPlace_26 (by decide) ?_
      exact g_iret C R dX10_wrongPlace_30 (Option.some.inj h) rfl
  · refine g_iload_n C dX10_wrongPlace_10 rfl rfl ?_
    exact g_iret C R dX10_wrongPlace_11 (Option.some.inj h) rfl
noncomputable def f_X10_write (x1 : Int32) (x2 : Int32) (l3 : Int64) (M : Mem) : Option (Int32 × Mem) :=
  (f_X10_wrongPlace x1 x2 M).bind fun r1 =>
  if r1 = 0 then
    (f_X6_put x1 x2 l3 M).bind fun M2 =>
    (f_X10_agree M2).bind fun q3 =>
    if isB q3.1 = true then some (q3.1, q3.2) else none
  else
    (f_X10_refuse r1 M).bind fun q5 =>
    if isB q5.1 = true then some (q5.1, q5.2) else none
set_option maxRecDepth 20000 in
set_option maxHeartbeats 2000000 in
theorem c_X10_write (E : wEnv) {x1 : Int32} {x2 : Int32} {l3 : Int64} {M : Mem} {q : (Int32 × Mem)} (h : f_X10_write x1 x2 l3 M = some q) : Mt E yX10_write cX10_write 6 (some .boolean) 3 [.ref (ad E 0 0), .int x1, .int x2, .long l3] M (some (.int q.1)) q.2 := by
  unfold f_X10_write at h
  refine mt_intro (own := RX10) (lv0 := [(0, .ref (ad E 0 0)), (1, .int x1), (2, .int x2), (3, .long l3)]) (by decide) rfl rfl rfl (fun Y C R => ?_)
  refine g_aload_n C dX10_write_0 rfl rfl ?_
  refine g_iload_n C dX10_write_1 rfl rfl ?_
  refine g_iload_n C dX10_write_2 rfl rfl ?_
  obtain ⟨r1, hr1, h⟩ := Option.bind_eq_some_iff.mp h
  refine call_X10_125 C dX10_write_3 (by decide) (c_X10_wrongPlace E hr1) (by decide) rfl ?_
  refine g_istore C dX10_write_6 rfl ?_
  refine g_iload C dX10_write_8 rfl ?_
  refine g_if_eq (tgt := 20) C dX10_write_10 (by decide) h (fun h => ?_) (fun h => ?_)
  · refine g_aload_n C dX10_write_20 rfl rfl ?_
    refine get_X10_10 C dX10_write_21 (by decide) ?_
    refine g_iload_n C dX10_write_24 rfl rfl ?_
    refine g_iload_n C dX10_write_25 rfl rfl ?_
    refine g_lload_n C dX10_write_26 rfl rfl ?_
    obtain ⟨M2, hr2, h⟩ := Option.bind_eq_some_iff.mp h
    refine call_X10_129 C dX10_write_27 (by decide) (c_X6_put E hr2) (by decide) rfl ?_
    refine g_aload_n C dX10_write_30 rfl rfl ?_
    obtain ⟨q3, hr3, h⟩ := Option.bind_eq_some_iff.mp h
    refine call_X10_121 C dX10_write_31 (by decide) (c_X10_agree E hr3) (by decide) rfl ?_
    obtain ⟨hz4, h⟩ := of_ite h
    exact g_zret C R dX10_write_34 (fst_of h) (isB_of hz4) (snd_of h)
  · refine g_aload_n C dX10_write_13 rfl rfl ?_
    refine g_iload C dX10_write_14 rfl ?_
    obtain ⟨q5, hr5, h⟩ := Option.bind_eq_some_iff.mp h
    refine call_X10_114 C dX10_write_16 (by decide) (c_X10_refuse E hr5) (by decide) rfl ?_
    obtain ⟨hz6, h⟩ := of_ite h
    exact g_zret C R dX10_write_19 (fst_of h) (isB_of hz6) (snd_of h)
noncomputable def f_X10_none (x1 : Int32) (M : Mem) : Option (Int32 × Mem) :=
  let M1 := sR M 0 0 (upd (M.1 0 0) 14 x1)
  some ((-1 : Int32), M1)
set_option maxRecDepth 20000 in
set_option maxHeartbeats 2000000 in
theorem c_X10_none (E : wEnv) {x1 : Int32} {M : Mem} {q : (Int32 × Mem)} (h : f_X10_none x1 M = some q) : Mt E yX10_none cX10_none 2 (some .int) 0 [.ref (ad E 0 0), .int x1] M (some (.int q.1)) q.2 := by
  unfold f_X10_none at h
  refine mt_intro (own := RX10) (lv0 := [(0, .ref (ad E 0 0)), (1, .int x1)]) (by decide) rfl rfl rfl (fun Y C R => ?_)
  refine g_aload_n C dX10_none_0 rfl rfl ?_
  refine g_iload_n C dX10_none_1 rfl rfl ?_
  refine put_X10_94 C dX10_none_2 (by decide) ?_
  refine g_iconst (v := (-1 : Int32)) C dX10_none_5 (by decide) ?_
  exact g_iret C R dX10_none_6 (fst_of h) (snd_of h)
noncomputable def f_X10_read (x1 : Int32) (x2 : Int32) (M : Mem) : Option (Int64 × Mem) :=
  (f_X10_wrongPlace x1 x2 M).bind fun r1 =>
  if r1 = 0 then
    let M2 := sR M 0 0 (upd (M.1 0 0) 14 (0 : Int32))
    if inb x1 4 = true then
     if inb x2 60 = true then
      some ((M2.2 4 x1.toNatClampNeg x2.toNatClampNeg), M2)
     else none
    else none
  else
    (f_X10_none r1 M).bind fun q5 =>
    some (q5.1.toInt64, q5.2)
set_option maxRecDepth 20000 in
set_option maxHeartbeats 2000000 in
theorem c_X10_read (E : wEnv) {x1 : Int32} {x2 : Int32} {M : Mem} {q : (Int64 × Mem)} (h : f_X10_read x1 x2 M = some q) : Mt E yX10_read cX10_read 4 (some .long) 3 [.ref (ad E 0 0), .int x1, .int x2] M (some (.long q.1)) q.2 := by
  unfold f_X10_read at h
  refine mt_intro (own := RX10) (lv0 := [(0, .ref (ad E 0 0)), (1, .int x1), (2, .int x2)]) (by decide) rfl rfl rfl (fun Y C R => ?_)
  refine g_aload_n C dX10_read_0 rfl rfl ?_
  refine g_iload_n C dX10_read_1 rfl rfl ?_
  refine g_iload_n C dX10_read_2 rfl rfl ?_
  obtain ⟨r1, hr1, h⟩ := Option.bind_eq_some_iff.mp h
  refine call_X10_125 C dX10_read_3 (by decide) (c_X10_wrongPlace E hr1) (by decide) rfl ?_
  refine g_istore_n C dX10_read_6 rfl rfl ?_
  refine g_iload_n C dX10_read_7 rfl rfl ?_
  refine g_if_eq (tgt := 18) C dX10_read_8 (by decide) h (fun h => ?_) (fun h => ?_)
  · refine g_aload_n C dX10_read_18 rfl rfl ?_
    refine g_iconst (v := (0 : Int32)) C dX10_read_19 (by decide) ?_
    refine put_X10_94 C dX10_read_20 (by decide) ?_
    refine g_aload_n C dX10_read_23 rfl rfl ?_
    refine get_X10_10 C dX10_read_24 (by decide) ?_
    refine get_X10_137 C dX10_read_27 (by decide) ?_
    refine g_iload_n C dX10_read_30 rfl rfl ?_
    obtain ⟨hb3, h⟩ := of_ite h
    refine ld_3 (j := _) C dX10_read_31 (by decide) hb3 rfl ?_
    refine g_iload_n C dX10_read_32 rfl rfl ?_
    obtain ⟨hb4, h⟩ := of_ite h
    refine ld_4 (j := _) C dX10_read_33 (inb_lt hb3) hb4 rfl ?_
    exact g_lret C R dX10_read_34 (fst_of h) (snd_of h)
  · refine g_aload_n C dX10_read_11 rfl rfl ?_
    refine g_iload_n C dX10_read_12 rfl rfl ?_
    obtain ⟨q5, hr5, h⟩ := Option.bind_eq_some_iff.mp h
    refine call_X10_133 C dX10_read_13 (by decide) (c_X10_none E hr5) (by decide) rfl ?_
    refine g_i2l C dX10_read_16 ?_
    exact g_lret C R dX10_read_17 (fst_of h) (snd_of h)
noncomputable def f_X10_pour (x1 : Int32) (x2 : Int32) (x3 : Int32) (x4 : Int32) (x5 : Int32) (M : Mem) : Option (Int32 × Mem) :=
  (f_X10_isTray x1).bind fun r1 =>
  if r1 = 0 then
    (f_X10_refuse (1 : Int32) M).bind fun q2 =>
    if isB q2.1 = true then some (q2.1, q2.2) else none
  else
    (f_X10_isTray x3).bind fun r4 =>
    if r4 = 0 then
      (f_X10_refuse (1 : Int32) M).bind fun q29 =>
      if isB q29.1 = true then some (q29.1, q29.2) else none
    else
      (f_X6_isMissing x1 M).bind fun r5 =>
      if r5 = 0 then
        (f_X6_isMissing x3 M).bind fun r8 =>
        if r8 = 0 then
          if inb x1 4 = true then
           if inb x3 4 = true then
            if (M.1 6 0 x1.toNatClampNeg) = (M.1 6 0 x3.toNatClampNeg) then
              if x5 < 0 then
                (f_X10_refuse (6 : Int32) M).bind fun q23 =>
                if isB q23.1 = true then some (q23.1, q23.2) else none
              else
                (f_X6_holds x1 x2 x5 M).bind fun r11 =>
                if r11 = 0 then
                  (f_X10_refuse (4 : Int32) M).bind fun q12 =>
                  if isB q12.1 = true then some (q12.1, q12.2) else none
                else
                  (f_X6_holds x3 x4 x5 M).bind fun r14 =>
                  if r14 = 0 then
                    (f_X10_refuse (4 : Int32) M).bind fun q21 =>
                    if isB q21.1 = true then some (q21.1, q21.2) else none
                  else
                    if inb x1 4 = true then
                     if inb x3 4 = true then
                      if cpok x2 x4 x5 60 60 = true then
                       let M18 := sL M 4 x3.toNatClampNeg (va_cpy (M.2 4 x1.toNatClampNeg) (M.2 4 x3.toNatClampNeg) x2.toNatClampNeg x4.toNatClampNeg x5.toNatClampNeg)
                       (f_X10_agree M18).bind fun q19 =>
                       if isB q19.1 = true then some (q19.1, q19.2) else none
                      else none
                     else none
                    else none
            else
              (f_X10_refuse (11 : Int32) M).bind fun q25 =>
              if isB q25.1 = true then some (q25.1, q25.2) else none
           else none
          else none
        else
          (f_X10_refuse (3 : Int32) M).bind fun q27 =>
          if isB q27.1 = true then some (q27.1, q27.2) else none
      else
        (f_X10_refuse (3 : Int32) M).bind fun q6 =>
        if isB q6.1 = true then some (q6.1, q6.2) else none
set_option maxRecDepth 20000 in
set_option maxHeartbeats 2000000 in
theorem c_X10_pour (E : wEnv) {x1 : Int32} {x2 : Int32} {x3 : Int32} {x4 : Int32} {x5 : Int32} {M : Mem} {q : (Int32 × Mem)} (h : f_X10_pour x1 x2 x3 x4 x5 M = some q) : Mt E yX10_pour cX10_pour 6 (some .boolean) 1 [.ref (ad E 0 0), .int x1, .int x2, .int x3, .int x4, .int x5] M (some (.int q.1)) q.2 := by
  unfold f_X10_pour at h
  refine mt_intro (own := RX10) (lv0 := [(0, .ref (ad E 0 0)), (1, .int x1), (2, .int x2), (3, .int x3), (4, .int x4), (5, .int x5)]) (by decide) rfl rfl rfl (fun Y C R => ?_)
  refine g_iload_n C dX10_pour_0 rfl rfl ?_
  obtain ⟨r1, hr1, h⟩ := Option.bind_eq_some_iff.mp h
  refine call_X10_110 C dX10_pour_1 (c_X10_isTray E hr1) (by decide) rfl ?_
  refine g_if_eq (tgt := 14) C dX10_pour_4 (by decide) h (fun h => ?_) (fun h => ?_)
  · refine g_aload_n C dX10_pour_14 rfl rfl ?_
    refine g_iconst (v := (1 : Int32)) C dX10_pour_15 (by decide) ?_
    obtain ⟨q2, hr2, h⟩ := Option.bind_eq_some_iff.mp h
    refine call_X10_114 C dX10_pour_16 (by decide) (c_X10_refuse E hr2) (by decide) rfl ?_
    obtain ⟨hz3, h⟩ := of_ite h
    exact g_zret C R dX10_pour_19 (fst_of h) (isB_of hz3) (snd_of h)
  · refine g_iload_n C dX10_pour_7 rfl rfl ?_
    obtain ⟨r4, hr4, h⟩ := Option.bind_eq_some_iff.mp h
    refine call_X10_110 C dX10_pour_8 (c_X10_isTray E hr4) (by decide) rfl ?_
    refine g_if_ne (tgt := 20) C dX10_pour_11 (by decide) h (fun h => ?_) (fun h => ?_)
    · refine g_aload_n C dX10_pour_20 rfl rfl ?_
      refine get_X10_10 C dX10_pour_21 (by decide) ?_
      refine g_iload_n C dX10_pour_24 rfl rfl ?_
      obtain ⟨r5, hr5, h⟩ := Option.bind_eq_some_iff.mp h
      refine call_X10_141 C dX10_pour_25 (by decide) (c_X6_isMissing E hr5) (by decide) rfl ?_
      refine g_if_ne (tgt := 42) C dX10_pour_28 (by decide) h (fun h => ?_) (fun h => ?_)
      · refine g_aload_n C dX10_pour_42 rfl rfl ?_
        refine g_iconst (v := (3 : Int32)) C dX10_pour_43 (by decide) ?_
        obtain ⟨q6, hr6, h⟩ := Option.bind_eq_some_iff.mp h
        refine call_X10_114 C dX10_pour_44 (by decide) (c_X10_refuse E hr6) (by decide) rfl ?_
        obtain ⟨hz7, h⟩ := of_ite h
        exact g_zret C R dX10_pour_47 (fst_of h) (isB_of hz7) (snd_of h)
      · refine g_aload_n C dX10_pour_31 rfl rfl ?_
        refine get_X10_10 C dX10_pour_32 (by decide) ?_
        refine g_iload_n C dX10_pour_35 rfl rfl ?_
        obtain ⟨r8, hr8, h⟩ := Option.bind_eq_some_iff.mp h
        refine call_X10_141 C dX10_pour_36 (by decide) (c_X6_isMissing E hr8) (by decide) rfl ?_
        refine g_if_eq (tgt := 48) C dX10_pour_39 (by decide) h (fun h => ?_) (fun h => ?_)
        · refine g_aload_n C dX10_pour_48 rfl rfl ?_
          refine get_X10_10 C dX10_pour_49 (by decide) ?_
          refine get_X10_144 C dX10_pour_52 (by decide) ?_
          refine g_iload_n C dX10_pour_55 rfl rfl ?_
          obtain ⟨hb9, h⟩ := of_ite h
          refine ld_6 (j := _) C dX10_pour_56 (by decide) hb9 rfl ?_
          refine g_aload_n C dX10_pour_57 rfl rfl ?_
          refine get_X10_10 C dX10_pour_58 (by decide) ?_
          refine get_X10_144 C dX10_pour_61 (by decide) ?_
          refine g_iload_n C dX10_pour_64 rfl rfl ?_
          obtain ⟨hb10, h⟩ := of_ite h
          refine ld_6 (j := _) C dX10_pour_65 (by decide) hb10 rfl ?_
          refine g_icmp_eq (tgt := 76) C dX10_pour_66 (by decide) h (fun h => ?_) (fun h => ?_)
          · refine g_iload C dX10_pour_76 rfl ?_
            refine g_if_ge (tgt := 88) C dX10_pour_78 (by decide) h (fun h => ?_) (fun h => ?_)
            · refine g_aload_n C dX10_pour_88 rfl rfl ?_
              refine get_X10_10 C dX10_pour_89 (by decide) ?_
              refine g_iload_n C dX10_pour_92 rfl rfl ?_
              refine g_iload_n C dX10_pour_93 rfl rfl ?_
              refine g_iload C dX10_pour_94 rfl ?_
              obtain ⟨r11, hr11, h⟩ := Option.bind_eq_some_iff.mp h
              refine call_X10_148 C dX10_pour_96 (by decide) (c_X6_holds E hr11) (by decide) rfl ?_
              refine g_if_eq (tgt := 117) C dX10_pour_99 (by decide) h (fun h => ?_) (fun h => ?_)
              · refine g_aload_n C dX10_pour_117 rfl rfl ?_
                refine g_iconst (v := (4 : Int32)) C dX10_pour_118 (by decide) ?_
                obtain ⟨q12, hr12, h⟩ := Option.bind_eq_some_iff.mp h
                refine call_X10_114 C dX10_pour_119 (by decide) (c_X10_refuse E hr12) (by decide) rfl ?_
                obtain ⟨hz13, h⟩ := of_ite h
                exact g_zret C R dX10_pour_122 (fst_of h) (isB_of hz13) (snd_of h)
              · refine g_aload_n C dX10_pour_102 rfl rfl ?_
                refine get_X10_10 C dX10_pour_103 (by decide) ?_
                refine g_iload_n C dX10_pour_106 rfl rfl ?_
                refine g_iload C dX10_pour_107 rfl ?_
                refine g_iload C dX10_pour_109 rfl ?_
                obtain ⟨r14, hr14, h⟩ := Option.bind_eq_some_iff.mp h
                refine call_X10_148 C dX10_pour_111 (by decide) (c_X6_holds E hr14) (by decide) rfl ?_
                refine g_if_ne (tgt := 123) C dX10_pour_114 (by decide) h (fun h => ?_) (fun h => ?_)
                · refine g_aload_n C dX10_pour_123 rfl rfl ?_
                  refine get_X10_10 C dX10_pour_124 (by decide) ?_
                  refine get_X10_137 C dX10_pour_127 (by decide) ?_
                  refine g_iload_n C dX10_pour_130 rfl rfl ?_
                  obtain ⟨hb15, h⟩ := of_ite h
                  refine ld_3 (j := _) C dX10_pour_131 (by decide) hb15 rfl ?_
                  refine g_iload_n C dX10_pour_132 rfl rfl ?_
                  refine g_aload_n C dX10_pour_133 rfl rfl ?_
                  refine get_X10_10 C dX10_pour_134 (by decide) ?_
                  refine get_X10_137 C dX10_pour_137 (by decide) ?_
                  refine g_iload_n C dX10_pour_140 rfl rfl ?_
                  obtain ⟨hb16, h⟩ := of_ite h
                  refine ld_3 (j := _) C dX10_pour_141 (by decide) hb16 rfl ?_
                  refine g_iload C dX10_pour_142 rfl ?_
                  refine g_iload C dX10_pour_144 rfl ?_
                  obtain ⟨hb17, h⟩ := of_ite h
                  refine cp_X10_152_4_4 (js := _) (jd := _) (jn := _) C dX10_pour_146 (inb_lt hb15) (inb_lt hb16) hb17 rfl rfl rfl (by decide) rfl ?_
                  refine g_aload_n C dX10_pour_149 rfl rfl ?_
                  obtain ⟨q19, hr19, h⟩ := Option.bind_eq_some_iff.mp h
                  refine call_X10_121 C dX10_pour_150 (by decide) (c_X10_agree E hr19) (by decide) rfl ?_
                  obtain ⟨hz20, h⟩ := of_ite h
                  exact g_zret C R dX10_pour_153 (fst_of h) (isB_of hz20) (snd_of h)
                · refine g_aload_n C dX10_pour_117 rfl rfl ?_
                  refine g_iconst (v := (4 : Int32)) C dX10_pour_118 (by decide) ?_
                  obtain ⟨q21, hr21, h⟩ := Option.bind_eq_some_iff.mp h
                  refine call_X10_114 C dX10_pour_119 (by decide) (c_X10_refuse E hr21) (by decide) rfl ?_
                  obtain ⟨hz22, h⟩ := of_ite h
                  exact g_zret C R dX10_pour_122 (fst_of h) (isB_of hz22) (snd_of h)
            · refine g_aload_n C dX10_pour_81 rfl rfl ?_
              refine g_bipush (v := (6 : Int32)) C dX10_pour_82 (by decide) ?_
              obtain ⟨q23, hr23, h⟩ := Option.bind_eq_some_iff.mp h
              refine call_X10_114 C dX10_pour_84 (by decide) (c_X10_refuse E hr23) (by decide) rfl ?_
              obtain ⟨hz24, h⟩ := of_ite h
              exact g_zret C R dX10_pour_87 (fst_of h) (isB_of hz24) (snd_of h)
          · refine g_aload_n C dX10_pour_69 rfl rfl ?_
            refine g_bipush (v := (11 : Int32)) C dX10_pour_70 (by decide) ?_
            obtain ⟨q25, hr25, h⟩ := Option.bind_eq_some_iff.mp h
            refine call_X10_114 C dX10_pour_72 (by decide) (c_X10_refuse E hr25) (by decide) rfl ?_
            obtain ⟨hz26, h⟩ := of_ite h
            exact g_zret C R dX10_pour_75 (fst_of h) (isB_of hz26) (snd_of h)
        · refine g_aload_n C dX10_pour_42 rfl rfl ?_
          refine g_iconst (v := (3 : Int32)) C dX10_pour_43 (by decide) ?_
          obtain ⟨q27, hr27, h⟩ := Option.bind_eq_some_iff.mp h
          refine call_X10_114 C dX10_pour_44 (by decide) (c_X10_refuse E hr27) (by decide) rfl ?_
          obtain ⟨hz28, h⟩ := of_ite h
          exact g_zret C R dX10_pour_47 (fst_of h) (isB_of hz28) (snd_of h)
    · refine g_aload_n C dX10_pour_14 rfl rfl ?_
      refine g_iconst (v := (1 : Int32)) C dX10_pour_15 (by decide) ?_
      obtain ⟨q29, hr29, h⟩ := Option.bind_eq_some_iff.mp h
      refine call_X10_114 C dX10_pour_16 (by decide) (c_X10_refuse E hr29) (by decide) rfl ?_
      obtain ⟨hz30, h⟩ := of_ite h
      exact g_zret C R dX10_pour_19 (fst_of h) (isB_of hz30) (snd_of h)
noncomputable def f_X10_feed (x1 : Int32) (x2 : Int32) (x3 : Int32) (x4 : Int32) (x5 : Int32) (M : Mem) : Option (Int32 × Mem) :=
  (f_X5_hasRoom (20 : Int32) M).bind fun r1 =>
  if r1 = 0 then
    some ((-1 : Int32), M)
  else
    (f_X5_append x1 M).bind fun M2 =>
    (f_X5_append x2 M2).bind fun M3 =>
    (f_X5_append x3 M3).bind fun M4 =>
    (f_X5_append x4 M4).bind fun M5 =>
    (f_X5_append x5 M5).bind fun M6 =>
    some ((M6.1 30 0 2), M6)
set_option maxRecDepth 20000 in
set_option maxHeartbeats 2000000 in
theorem c_X10_feed (E : wEnv) {x1 : Int32} {x2 : Int32} {x3 : Int32} {x4 : Int32} {x5 : Int32} {M : Mem} {q : (Int32 × Mem)} (h : f_X10_feed x1 x2 x3 x4 x5 M = some q) : Mt E yX10_feed cX10_feed 6 (some .int) 1 [.ref (ad E 0 0), .int x1, .int x2, .int x3, .int x4, .int x5] M (some (.int q.1)) q.2 := by
  unfold f_X10_feed at h
  refine mt_intro (own := RX10) (lv0 := [(0, .ref (ad E 0 0)), (1, .int x1), (2, .int x2), (3, .int x3), (4, .int x4), (5, .int x5)]) (by decide) rfl rfl rfl (fun Y C R => ?_)
  refine g_aload_n C dX10_feed_0 rfl rfl ?_
  refine get_X10_44 C dX10_feed_1 (by decide) ?_
  refine g_bipush (v := (20 : Int32)) C dX10_feed_4 (by decide) ?_
  obtain ⟨r1, hr1, h⟩ := Option.bind_eq_some_iff.mp h
  refine call_X10_158 C dX10_feed_6 (by decide) (c_X5_hasRoom E hr1) (by decide) rfl ?_
  refine g_if_ne (tgt := 14) C dX10_feed_9 (by decide) h (fun h => ?_) (fun h => ?_)
  · refine g_aload_n C dX10_feed_14 rfl rfl ?_
    refine get_X10_44 C dX10_feed_15 (by decide) ?_
    refine g_iload_n C dX10_feed_18 rfl rfl ?_
    obtain ⟨M2, hr2, h⟩ := Option.bind_eq_some_iff.mp h
    refine call_X10_161 C dX10_feed_19 (by decide) (c_X5_append E hr2) (by decide) rfl ?_
    refine g_aload_n C dX10_feed_22 rfl rfl ?_
    refine get_X10_44 C dX10_feed_23 (by decide) ?_
    refine g_iload_n C dX10_feed_26 rfl rfl ?_
    obtain ⟨M3, hr3, h⟩ := Option.bind_eq_some_iff.mp h
    refine call_X10_161 C dX10_feed_27 (by decide) (c_X5_append E hr3) (by decide) rfl ?_
    refine g_aload_n C dX10_feed_30 rfl rfl ?_
    refine get_X10_44 C dX10_feed_31 (by decide) ?_
    refine g_iload_n C dX10_feed_34 rfl rfl ?_
    obtain ⟨M4, hr4, h⟩ := Option.bind_eq_some_iff.mp h
    refine call_X10_161 C dX10_feed_35 (by decide) (c_X5_append E hr4) (by decide) rfl ?_
    refine g_aload_n C dX10_feed_38 rfl rfl ?_
    refine get_X10_44 C dX10_feed_39 (by decide) ?_
    refine g_iload C dX10_feed_42 rfl ?_
    obtain ⟨M5, hr5, h⟩ := Option.bind_eq_some_iff.mp h
    refine call_X10_161 C dX10_feed_44 (by decide) (c_X5_append E hr5) (by decide) rfl ?_
    refine g_aload_n C dX10_feed_47 rfl rfl ?_
    refine get_X10_44 C dX10_feed_48 (by decide) ?_
    refine g_iload C dX10_feed_51 rfl ?_
    obtain ⟨M6, hr6, h⟩ := Option.bind_eq_some_iff.mp h
    refine call_X10_161 C dX10_feed_53 (by decide) (c_X5_append E hr6) (by decide) rfl ?_
    refine g_aload_n C dX10_feed_56 rfl rfl ?_
    refine get_X10_44 C dX10_feed_57 (by decide) ?_
    refine get_X10_165 C dX10_feed_60 (by decide) ?_
    exact g_iret C R dX10_feed_63 (fst_of h) (snd_of h)
  · refine g_iconst (v := (-1 : Int32)) C dX10_feed_12 (by decide) ?_
    exact g_iret C R dX10_feed_13 (fst_of h) (snd_of h)
noncomputable def f_X10_keepFault (M : Mem) : Option (Int32 × Mem) :=
  let M1 := sR M 0 0 (upd (M.1 0 0) 15 (M.1 30 0 10))
  if (M1.1 30 0 10) = 0 then
    let M3 := sR M1 0 0 (upd (M1.1 0 0) 16 (-1 : Int32))
    if (M3.1 0 0 15) = 0 then
      some ((0 : Int32), M3)
    else
      some ((1 : Int32), M3)
  else
    let M2 := sR M1 0 0 (upd (M1.1 0 0) 16 (M1.1 30 0 11))
    if (M2.1 0 0 15) = 0 then
      some ((0 : Int32), M2)
    else
      some ((1 : Int32), M2)
set_option maxRecDepth 20000 in
set_option maxHeartbeats 2000000 in
theorem c_X10_keepFault (E : wEnv) {M : Mem} {q : (Int32 × Mem)} (h : f_X10_keepFault M = some q) : Mt E yX10_keepFault cX10_keepFault 1 (some .boolean) 0 [.ref (ad E 0 0)] M (some (.int q.1)) q.2 := by
  unfold f_X10_keepFault at h
  refine mt_intro (own := RX10) (lv0 := [(0, .ref (ad E 0 0))]) (by decide) rfl rfl rfl (fun Y C R => ?_)
  refine g_aload_n C dX10_keepFault_0 rfl rfl ?_
  refine g_aload_n C dX10_keepFault_1 rfl rfl ?_
  refine get_X10_44 C dX10_keepFault_2 (by decide) ?_
  refine get_X10_447 C dX10_keepFault_5 (by decide) ?_
  refine put_X10_97 C dX10_keepFault_8 (by decide) ?_
  refine g_aload_n C dX10_keepFault_11 rfl rfl ?_
  refine g_aload_n C dX10_keepFault_12 rfl rfl ?_
  refine get_X10_44 C dX10_keepFault_13 (by decide) ?_
  refine get_X10_447 C dX10_keepFault_16 (by decide) ?_
  refine g_if_ne (tgt := 26) C dX10_keepFault_19 (by decide) h (fun h => ?_) (fun h => ?_)
  · refine g_aload_n C dX10_keepFault_26 rfl rfl ?_
    refine get_X10_44 C dX10_keepFault_27 (by decide) ?_
    refine get_X10_450 C dX10_keepFault_30 (by decide) ?_
    refine put_X10_100 C dX10_keepFault_33 (by decide) ?_
    refine g_aload_n C dX10_keepFault_36 rfl rfl ?_
    refine get_X10_97 C dX10_keepFault_37 (by decide) ?_
    refine g_if_eq (tgt := 47) C dX10_keepFault_40 (by decide) h (fun h => ?_) (fun h => ?_)
    · refine g_iconst (v := (0 : Int32)) C dX10_keepFault_47 (by decide) ?_
      exact g_zret C R dX10_keepFault_48 (fst_of h) (Or.inl rfl) (snd_of h)
    · refine g_iconst (v := (1 : Int32)) C dX10_keepFault_43 (by decide) ?_
      refine g_goto (tgt := 48) C dX10_keepFault_44 (by decide) ?_
      exact g_zret C R dX10_keepFault_48 (fst_of h) (Or.inr rfl) (snd_of h)
  · refine g_iconst (v := (-1 : Int32)) C dX10_keepFault_22 (by decide) ?_
    refine g_goto (tgt := 33) C dX10_keepFault_23 (by decide) ?_
    refine put_X10_100 C dX10_keepFault_33 (by decide) ?_
    refine g_aload_n C dX10_keepFault_36 rfl rfl ?_
    refine get_X10_97 C dX10_keepFault_37 (by decide) ?_
    refine g_if_eq (tgt := 47) C dX10_keepFault_40 (by decide) h (fun h => ?_) (fun h => ?_)
    · refine g_iconst (v := (0 : Int32)) C dX10_keepFault_47 (by decide) ?_
      exact g_zret C R dX10_keepFault_48 (fst_of h) (Or.inl rfl) (snd_of h)
    · refine g_iconst (v := (1 : Int32)) C dX10_keepFault_43 (by decide) ?_
      refine g_goto (tgt := 48) C dX10_keepFault_44 (by decide) ?_
      exact g_zret C R dX10_keepFault_48 (fst_of h) (Or.inr rfl) (snd_of h)
noncomputable def f_X10_answer (x1 : Int32) (M : Mem) : Option (Int32 × Mem) :=
  let M1 := sR M 0 0 (upd (M.1 0 0) 14 (0 : Int32))
  some (x1, M1)
set_option maxRecDepth 20000 in
set_option maxHeartbeats 2000000 in
theorem c_X10_answer (E : wEnv) {x1 : Int32} {M : Mem} {q : (Int32 × Mem)} (h : f_X10_answer x1 M = some q) : Mt E yX10_answer cX10_answer 2 (some .int) 0 [.ref (ad E 0 0), .int x1] M (some (.int q.1)) q.2 := by
  unfold f_X10_answer at h
  refine mt_intro (own := RX10) (lv0 := [(0, .ref (ad E 0 0)), (1, .int x1)]) (by decide) rfl rfl rfl (fun Y C R => ?_)
  refine g_aload_n C dX10_answer_0 rfl rfl ?_
  refine g_iconst (v := (0 : Int32)) C dX10_answer_1 (by decide) ?_
  refine put_X10_94 C dX10_answer_2 (by decide) ?_
  refine g_iload_n C dX10_answer_5 rfl rfl ?_
  exact g_iret C R dX10_answer_6 (fst_of h) (snd_of h)
noncomputable def f_X10_court (x1 : Int32) (M : Mem) : Option (Int32 × Mem) :=
  if x1 < 0 then
    (f_X10_none (5 : Int32) M).bind fun q1 =>
    some (q1.1, q1.2)
  else
    if (M.1 30 0 2) < x1 then
      (f_X10_none (5 : Int32) M).bind fun q10 =>
      some (q10.1, q10.2)
    else
      (f_X2_readCourt x1 4 M).bind fun M2 =>
      let M3 := sR M2 30 0 (upd (M2.1 30 0) 2 (0 : Int32))
      (f_X10_keepFault M3).bind fun q4 =>
      if q4.1 = 0 then
        (f_X1_copyFrom 0 4 q4.2).bind fun M5 =>
        (f_X3_openCourt 0 0 M5).bind fun M6 =>
        (f_X7_clear 0 M6).bind fun M7 =>
        (f_X10_answer (M7.1 9 0 0) M7).bind fun q8 =>
        some (q8.1, q8.2)
      else
        (f_X10_none (10 : Int32) q4.2).bind fun q9 =>
        some (q9.1, q9.2)
set_option maxRecDepth 20000 in
set_option maxHeartbeats 2000000 in
theorem c_X10_court (E : wEnv) {x1 : Int32} {M : Mem} {q : (Int32 × Mem)} (h : f_X10_court x1 M = some q) : Mt E yX10_court cX10_court 2 (some .int) 7 [.ref (ad E 0 0), .int x1] M (some (.int q.1)) q.2 := by
  unfold f_X10_court at h
  refine mt_intro (own := RX10) (lv0 := [(0, .ref (ad E 0 0)), (1, .int x1)]) (by decide) rfl rfl rfl (fun Y C R => ?_)
  refine g_iload_n C dX10_court_0 rfl rfl ?_
  refine g_if_lt (tgt := 15) C dX10_court_1 (by decide) h (fun h => ?_) (fun h => ?_)
  · refine g_aload_n C dX10_court_15 rfl rfl ?_
    refine g_iconst (v := (5 : Int32)) C dX10_court_16 (by decide) ?_
    obtain ⟨q1, hr1, h⟩ := Option.bind_eq_some_iff.mp h
    refine call_X10_133 C dX10_court_17 (by decide) (c_X10_none E hr1) (by decide) rfl ?_
    exact g_iret C R dX10_court_20 (fst_of h) (snd_of h)
  · refine g_iload_n C dX10_court_4 rfl rfl ?_
    refine g_aload_n C dX10_court_5 rfl rfl ?_
    refine get_X10_44 C dX10_court_6 (by decide) ?_
    refine get_X10_165 C dX10_court_9 (by decide) ?_
    refine g_icmp_le (tgt := 21) C dX10_court_12 (by decide) h (fun h => ?_) (fun h => ?_)
    · refine g_aload_n C dX10_court_21 rfl rfl ?_
      refine get_X10_51 C dX10_court_22 (by decide) ?_
      refine g_aload_n C dX10_court_25 rfl rfl ?_
      refine get_X10_44 C dX10_court_26 (by decide) ?_
      refine g_iload_n C dX10_court_29 rfl rfl ?_
      refine g_aload_n C dX10_court_30 rfl rfl ?_
      refine get_X10_30 C dX10_court_31 (by decide) ?_
      obtain ⟨M2, hr2, h⟩ := Option.bind_eq_some_iff.mp h
      refine call_X10_168 C dX10_court_34 (by decide) (c_X2_readCourt E (by decide) hr2) (by decide) rfl ?_
      refine g_aload_n C dX10_court_37 rfl rfl ?_
      refine get_X10_44 C dX10_court_38 (by decide) ?_
      refine g_iconst (v := (0 : Int32)) C dX10_court_41 (by decide) ?_
      refine put_X10_165 C dX10_court_42 (by decide) ?_
      refine g_aload_n C dX10_court_45 rfl rfl ?_
      obtain ⟨q4, hr4, h⟩ := Option.bind_eq_some_iff.mp h
      refine call_X10_172 C dX10_court_46 (by decide) (c_X10_keepFault E hr4) (by decide) rfl ?_
      refine g_if_eq (tgt := 59) C dX10_court_49 (by decide) h (fun h => ?_) (fun h => ?_)
      · refine g_aload_n C dX10_court_59 rfl rfl ?_
        refine get_X10_19 C dX10_court_60 (by decide) ?_
        refine get_X10_175 C dX10_court_63 (by decide) ?_
        refine g_aload_n C dX10_court_66 rfl rfl ?_
        refine get_X10_30 C dX10_court_67 (by decide) ?_
        obtain ⟨M5, hr5, h⟩ := Option.bind_eq_some_iff.mp h
        refine call_X10_178 C dX10_court_70 (by decide) (c_X1_copyFrom E (by decide) (by decide) hr5) (by decide) rfl ?_
        refine g_aload_n C dX10_court_73 rfl rfl ?_
        refine get_X10_19 C dX10_court_74 (by decide) ?_
        refine get_X10_182 C dX10_court_77 (by decide) ?_
        refine g_aload_n C dX10_court_80 rfl rfl ?_
        refine get_X10_19 C dX10_court_81 (by decide) ?_
        refine get_X10_175 C dX10_court_84 (by decide) ?_
        obtain ⟨M6, hr6, h⟩ := Option.bind_eq_some_iff.mp h
        refine call_X10_185 C dX10_court_87 (by decide) (c_X3_openCourt E (by decide) (by decide) hr6) (by decide) rfl ?_
        refine g_aload_n C dX10_court_90 rfl rfl ?_
        refine get_X10_19 C dX10_court_91 (by decide) ?_
        refine get_X10_188 C dX10_court_94 (by decide) ?_
        obtain ⟨M7, hr7, h⟩ := Option.bind_eq_some_iff.mp h
        refine call_X10_191 C dX10_court_97 (by decide) (c_X7_clear E (by decide) hr7) (by decide) rfl ?_
        refine g_aload_n C dX10_court_100 rfl rfl ?_
        refine g_aload_n C dX10_court_101 rfl rfl ?_
        refine get_X10_19 C dX10_court_102 (by decide) ?_
        refine get_X10_175 C dX10_court_105 (by decide) ?_
        refine get_X10_194 C dX10_court_108 (by decide) ?_
        refine g_iconst (v := (0 : Int32)) C dX10_court_111 (by decide) ?_
        refine ld_9 (j := 0) C dX10_court_112 (by decide) (by decide) rfl ?_
        obtain ⟨q8, hr8, h⟩ := Option.bind_eq_some_iff.mp h
        refine call_X10_197 C dX10_court_113 (by decide) (c_X10_answer E hr8) (by decide) rfl ?_
        exact g_iret C R dX10_court_116 (fst_of h) (snd_of h)
      · refine g_aload_n C dX10_court_52 rfl rfl ?_
        refine g_bipush (v := (10 : Int32)) C dX10_court_53 (by decide) ?_
        obtain ⟨q9, hr9, h⟩ := Option.bind_eq_some_iff.mp h
        refine call_X10_133 C dX10_court_55 (by decide) (c_X10_none E hr9) (by decide) rfl ?_
        exact g_iret C R dX10_court_58 (fst_of h) (snd_of h)
    · refine g_aload_n C dX10_court_15 rfl rfl ?_
      refine g_iconst (v := (5 : Int32)) C dX10_court_16 (by decide) ?_
      obtain ⟨q10, hr10, h⟩ := Option.bind_eq_some_iff.mp h
      refine call_X10_133 C dX10_court_17 (by decide) (c_X10_none E hr10) (by decide) rfl ?_
      exact g_iret C R dX10_court_20 (fst_of h) (snd_of h)
noncomputable def f_X10_weeks (x1 : Int32) (M : Mem) : Option (Int32 × Mem) :=
  if x1 < 0 then
    (f_X10_none (5 : Int32) M).bind fun q1 =>
    some (q1.1, q1.2)
  else
    if (M.1 30 0 2) < x1 then
      (f_X10_none (5 : Int32) M).bind fun q2 =>
      some (q2.1, q2.2)
    else
      if (300 : Int32) < x1 then
        (f_X10_none (5 : Int32) M).bind fun q9 =>
        some (q9.1, q9.2)
      else
        (f_X8_readWeeks x1 0 4 M).bind fun M3 =>
        let M4 := sR M3 30 0 (upd (M3.1 30 0) 2 (0 : Int32))
        (f_X10_keepFault M4).bind fun q5 =>
        if q5.1 = 0 then
          (f_X7_copyFrom 0 4 q5.2).bind fun M6 =>
          (f_X10_answer (M6.1 23 0 7) M6).bind fun q7 =>
          some (q7.1, q7.2)
        else
          (f_X10_none (10 : Int32) q5.2).bind fun q8 =>
          some (q8.1, q8.2)
set_option maxRecDepth 20000 in
set_option maxHeartbeats 2000000 in
theorem c_X10_weeks (E : wEnv) {x1 : Int32} {M : Mem} {q : (Int32 × Mem)} (h : f_X10_weeks x1 M = some q) : Mt E yX10_weeks cX10_weeks 2 (some .int) 7 [.ref (ad E 0 0), .int x1] M (some (.int q.1)) q.2 := by
  unfold f_X10_weeks at h
  refine mt_intro (own := RX10) (lv0 := [(0, .ref (ad E 0 0)), (1, .int x1)]) (by decide) rfl rfl rfl (fun Y C R => ?_)
  refine g_iload_n C dX10_weeks_0 rfl rfl ?_
  refine g_if_lt (tgt := 22) C dX10_weeks_1 (by decide) h (fun h => ?_) (fun h => ?_)
  · refine g_aload_n C dX10_weeks_22 rfl rfl ?_
    refine g_iconst (v := (5 : Int32)) C dX10_weeks_23 (by decide) ?_
    obtain ⟨q1, hr1, h⟩ := Option.bind_eq_some_iff.mp h
    refine call_X10_133 C dX10_weeks_24 (by decide) (c_X10_none E hr1) (by decide) rfl ?_
    exact g_iret C R dX10_weeks_27 (fst_of h) (snd_of h)
  · refine g_iload_n C dX10_weeks_4 rfl rfl ?_
    refine g_aload_n C dX10_weeks_5 rfl rfl ?_
    refine get_X10_44 C dX10_weeks_6 (by decide) ?_
    refine get_X10_165 C dX10_weeks_9 (by decide) ?_
    refine g_icmp_gt (tgt := 22) C dX10_weeks_12 (by decide) h (fun h => ?_) (fun h => ?_)
    · refine g_aload_n C dX10_weeks_22 rfl rfl ?_
      refine g_iconst (v := (5 : Int32)) C dX10_weeks_23 (by decide) ?_
      obtain ⟨q2, hr2, h⟩ := Option.bind_eq_some_iff.mp h
      refine call_X10_133 C dX10_weeks_24 (by decide) (c_X10_none E hr2) (by decide) rfl ?_
      exact g_iret C R dX10_weeks_27 (fst_of h) (snd_of h)
    · refine g_iload_n C dX10_weeks_15 rfl rfl ?_
      refine g_sipush (v := (300 : Int32)) C dX10_weeks_16 (by decide) ?_
      refine g_icmp_le (tgt := 28) C dX10_weeks_19 (by decide) h (fun h => ?_) (fun h => ?_)
      · refine g_aload_n C dX10_weeks_28 rfl rfl ?_
        refine get_X10_58 C dX10_weeks_29 (by decide) ?_
        refine g_aload_n C dX10_weeks_32 rfl rfl ?_
        refine get_X10_44 C dX10_weeks_33 (by decide) ?_
        refine g_iload_n C dX10_weeks_36 rfl rfl ?_
        refine g_aload_n C dX10_weeks_37 rfl rfl ?_
        refine get_X10_19 C dX10_weeks_38 (by decide) ?_
        refine get_X10_175 C dX10_weeks_41 (by decide) ?_
        refine g_aload_n C dX10_weeks_44 rfl rfl ?_
        refine get_X10_37 C dX10_weeks_45 (by decide) ?_
        obtain ⟨M3, hr3, h⟩ := Option.bind_eq_some_iff.mp h
        refine call_X10_200 C dX10_weeks_48 (by decide) (c_X8_readWeeks E (by decide) (by decide) hr3) (by decide) rfl ?_
        refine g_aload_n C dX10_weeks_51 rfl rfl ?_
        refine get_X10_44 C dX10_weeks_52 (by decide) ?_
        refine g_iconst (v := (0 : Int32)) C dX10_weeks_55 (by decide) ?_
        refine put_X10_165 C dX10_weeks_56 (by decide) ?_
        refine g_aload_n C dX10_weeks_59 rfl rfl ?_
        obtain ⟨q5, hr5, h⟩ := Option.bind_eq_some_iff.mp h
        refine call_X10_172 C dX10_weeks_60 (by decide) (c_X10_keepFault E hr5) (by decide) rfl ?_
        refine g_if_eq (tgt := 73) C dX10_weeks_63 (by decide) h (fun h => ?_) (fun h => ?_)
        · refine g_aload_n C dX10_weeks_73 rfl rfl ?_
          refine get_X10_19 C dX10_weeks_74 (by decide) ?_
          refine get_X10_188 C dX10_weeks_77 (by decide) ?_
          refine g_aload_n C dX10_weeks_80 rfl rfl ?_
          refine get_X10_37 C dX10_weeks_81 (by decide) ?_
          obtain ⟨M6, hr6, h⟩ := Option.bind_eq_some_iff.mp h
          refine call_X10_204 C dX10_weeks_84 (by decide) (c_X7_copyFrom E (by decide) (by decide) hr6) (by decide) rfl ?_
          refine g_aload_n C dX10_weeks_87 rfl rfl ?_
          refine g_aload_n C dX10_weeks_88 rfl rfl ?_
          refine get_X10_19 C dX10_weeks_89 (by decide) ?_
          refine get_X10_188 C dX10_weeks_92 (by decide) ?_
          refine get_X10_207 C dX10_weeks_95 (by decide) ?_
          obtain ⟨q7, hr7, h⟩ := Option.bind_eq_some_iff.mp h
          refine call_X10_197 C dX10_weeks_98 (by decide) (c_X10_answer E hr7) (by decide) rfl ?_
          exact g_iret C R dX10_weeks_101 (fst_of h) (snd_of h)
        · refine g_aload_n C dX10_weeks_66 rfl rfl ?_
          refine g_bipush (v := (10 : Int32)) C dX10_weeks_67 (by decide) ?_
          obtain ⟨q8, hr8, h⟩ := Option.bind_eq_some_iff.mp h
          refine call_X10_133 C dX10_weeks_69 (by decide) (c_X10_none E hr8) (by decide) rfl ?_
          exact g_iret C R dX10_weeks_72 (fst_of h) (snd_of h)
      · refine g_aload_n C dX10_weeks_22 rfl rfl ?_
        refine g_iconst (v := (5 : Int32)) C dX10_weeks_23 (by decide) ?_
        obtain ⟨q9, hr9, h⟩ := Option.bind_eq_some_iff.mp h
        refine call_X10_133 C dX10_weeks_24 (by decide) (c_X10_none E hr9) (by decide) rfl ?_
        exact g_iret C R dX10_weeks_27 (fst_of h) (snd_of h)
noncomputable def f_X10_fault (x1 : Int32) (M : Mem) : Option Int32 :=
  if x1 = 0 then
    some (M.1 0 0 15)
  else
    if x1 = (1 : Int32) then
      some (M.1 0 0 16)
    else
      some (-1 : Int32)
set_option maxRecDepth 20000 in
set_option maxHeartbeats 2000000 in
theorem c_X10_fault (E : wEnv) {x1 : Int32} {M : Mem} {q : Int32} (h : f_X10_fault x1 M = some q) : Mt E yX10_fault cX10_fault 2 (some .int) 0 [.ref (ad E 0 0), .int x1] M (some (.int q)) M := by
  unfold f_X10_fault at h
  refine mt_intro (own := RX10) (lv0 := [(0, .ref (ad E 0 0)), (1, .int x1)]) (by decide) rfl rfl rfl (fun Y C R => ?_)
  refine g_iload_n C dX10_fault_0 rfl rfl ?_
  refine g_if_ne (tgt := 9) C dX10_fault_1 (by decide) h (fun h => ?_) (fun h => ?_)
  · refine g_iload_n C dX10_fault_9 rfl rfl ?_
    refine g_iconst (v := (1 : Int32)) C dX10_fault_10 (by decide) ?_
    refine g_icmp_ne (tgt := 21) C dX10_fault_11 (by decide) h (fun h => ?_) (fun h => ?_)
    · refine g_iconst (v := (-1 : Int32)) C dX10_fault_21 (by decide) ?_
      exact g_iret C R dX10_fault_22 (Option.some.inj h) rfl
    · refine g_aload_n C dX10_fault_14 rfl rfl ?_
      refine get_X10_100 C dX10_fault_15 (by decide) ?_
      refine g_goto (tgt := 22) C dX10_fault_18 (by decide) ?_
      exact g_iret C R dX10_fault_22 (Option.some.inj h) rfl
  · refine g_aload_n C dX10_fault_4 rfl rfl ?_
    refine get_X10_97 C dX10_fault_5 (by decide) ?_
    exact g_iret C R dX10_fault_8 (Option.some.inj h) rfl
noncomputable def f_X10_hasNoWeather (M : Mem) : Option Int32 :=
  if (M.1 9 0 2) = 0 then
    some (1 : Int32)
  else
    some (0 : Int32)
set_option maxRecDepth 20000 in
set_option maxHeartbeats 2000000 in
theorem c_X10_hasNoWeather (E : wEnv) {M : Mem} {q : Int32} (h : f_X10_hasNoWeather M = some q) : Mt E yX10_hasNoWeather cX10_hasNoWeather 1 (some .boolean) 0 [.ref (ad E 0 0)] M (some (.int q)) M := by
  unfold f_X10_hasNoWeather at h
  refine mt_intro (own := RX10) (lv0 := [(0, .ref (ad E 0 0))]) (by decide) rfl rfl rfl (fun Y C R => ?_)
  refine g_aload_n C dX10_hasNoWeather_0 rfl rfl ?_
  refine get_X10_19 C dX10_hasNoWeather_1 (by decide) ?_
  refine get_X10_175 C dX10_hasNoWeather_4 (by decide) ?_
  refine get_X10_194 C dX10_hasNoWeather_7 (by decide) ?_
  refine g_iconst (v := (2 : Int32)) C dX10_hasNoWeather_10 (by decide) ?_
  refine ld_9 (j := 2) C dX10_hasNoWeather_11 (by decide) (by decide) rfl ?_
  refine g_if_ne (tgt := 19) C dX10_hasNoWeather_12 (by decide) h (fun h => ?_) (fun h => ?_)
  · refine g_iconst (v := (0 : Int32)) C dX10_hasNoWeather_19 (by decide) ?_
    exact g_zret C R dX10_hasNoWeather_20 (Option.some.inj h) (Or.inl rfl) rfl
  · refine g_iconst (v := (1 : Int32)) C dX10_hasNoWeather_15 (by decide) ?_
    refine g_goto (tgt := 20) C dX10_hasNoWeather_16 (by decide) ?_
    exact g_zret C R dX10_hasNoWeather_20 (Option.some.inj h) (Or.inr rfl) rfl
noncomputable def f_X10_many (x1 : Int32) (M : Mem) : Option (Int32 × Mem) :=
  if x1 < 0 then
    (f_X10_none (5 : Int32) M).bind fun q1 =>
    some (q1.1, q1.2)
  else
    if (11 : Int32) < x1 then
      (f_X10_none (5 : Int32) M).bind fun q23 =>
      some (q23.1, q23.2)
    else
      if x1 = (4 : Int32) then
        if (M.1 8 0 11) = 0 then
          (f_X10_none (8 : Int32) M).bind fun q3 =>
          some (q3.1, q3.2)
        else
          (f_X10_answer (M.1 8 0 11) M).bind fun q2 =>
          some (q2.1, q2.2)
      else
      if x1 = (5 : Int32) then
        (f_X10_answer (M.1 8 0 12) M).bind fun q5 =>
        some (q5.1, q5.2)
      else
      if x1 = (6 : Int32) then
        (f_X10_answer (M.1 20 0 5) M).bind fun q7 =>
        some (q7.1, q7.2)
      else
      if x1 = (7 : Int32) then
        (f_X10_answer (M.1 20 0 4) M).bind fun q9 =>
        some (q9.1, q9.2)
      else
      if x1 = (8 : Int32) then
        (f_X10_hasNoWeather M).bind fun r11 =>
        if r11 = 0 then
          (f_X10_answer (M.1 20 0 6) M).bind fun q12 =>
          some (q12.1, q12.2)
        else
          (f_X10_none (8 : Int32) M).bind fun q13 =>
          some (q13.1, q13.2)
      else
      if x1 = (9 : Int32) then
        (f_X10_answer (M.1 20 0 7) M).bind fun q15 =>
        some (q15.1, q15.2)
      else
      if x1 = (10 : Int32) then
        (f_X10_answer (M.1 20 0 2) M).bind fun q17 =>
        some (q17.1, q17.2)
      else
      if x1 = (11 : Int32) then
        (f_X10_answer (M.1 20 0 3) M).bind fun q19 =>
        some (q19.1, q19.2)
      else
        if inb x1 4 = true then
         (f_X10_answer (M.1 9 0 x1.toNatClampNeg) M).bind fun q22 =>
         some (q22.1, q22.2)
        else none
set_option maxRecDepth 20000 in
set_option maxHeartbeats 2000000 in
theorem c_X10_many (E : wEnv) {x1 : Int32} {M : Mem} {q : (Int32 × Mem)} (h : f_X10_many x1 M = some q) : Mt E yX10_many cX10_many 4 (some .int) 1 [.ref (ad E 0 0), .int x1] M (some (.int q.1)) q.2 := by
  unfold f_X10_many at h
  refine mt_intro (own := RX10) (lv0 := [(0, .ref (ad E 0 0)), (1, .int x1)]) (by decide) rfl rfl rfl (fun Y C R => ?_)
  refine g_iload_n C dX10_many_0 rfl rfl ?_
  refine g_if_lt (tgt := 10) C dX10_many_1 (by decide) h (fun h => ?_) (fun h => ?_)
  · refine g_aload_n C dX10_many_10 rfl rfl ?_
    refine g_iconst (v := (5 : Int32)) C dX10_many_11 (by decide) ?_
    obtain ⟨q1, hr1, h⟩ := Option.bind_eq_some_iff.mp h
    refine call_X10_133 C dX10_many_12 (by decide) (c_X10_none E hr1) (by decide) rfl ?_
    exact g_iret C R dX10_many_15 (fst_of h) (snd_of h)
  · refine g_iload_n C dX10_many_4 rfl rfl ?_
    refine g_bipush (v := (11 : Int32)) C dX10_many_5 (by decide) ?_
    refine g_icmp_le (tgt := 16) C dX10_many_7 (by decide) h (fun h => ?_) (fun h => ?_)
    · refine g_aload_n C dX10_many_16 rfl rfl ?_
      refine get_X10_19 C dX10_many_17 (by decide) ?_
      refine get_X10_175 C dX10_many_20 (by decide) ?_
      refine g_astore_n C dX10_many_23 rfl rfl ?_
      refine g_aload_n C dX10_many_24 rfl rfl ?_
      refine get_X10_19 C dX10_many_25 (by decide) ?_
      refine get_X10_182 C dX10_many_28 (by decide) ?_
      refine g_astore_n C dX10_many_31 rfl rfl ?_
      refine g_iload_n C dX10_many_32 rfl rfl ?_
      rcases of_ites h with ⟨c4, h⟩ | ⟨c4, h⟩
      · refine g_tabIn (v := (4 : Int32)) (tgt := 80) C dX10_many_33 c4 (by decide) (by decide) rfl (by decide) ?_
        refine g_aload_n C dX10_many_80 rfl rfl ?_
        refine get_X10_210 C dX10_many_81 (by decide) ?_
        refine g_if_ne (tgt := 96) C dX10_many_84 (by decide) h (fun h => ?_) (fun h => ?_)
        · refine g_aload_n C dX10_many_96 rfl rfl ?_
          refine g_aload_n C dX10_many_97 rfl rfl ?_
          refine get_X10_210 C dX10_many_98 (by decide) ?_
          obtain ⟨q2, hr2, h⟩ := Option.bind_eq_some_iff.mp h
          refine call_X10_197 C dX10_many_101 (by decide) (c_X10_answer E hr2) (by decide) rfl ?_
          exact g_iret C R dX10_many_104 (fst_of h) (snd_of h)
        · refine g_aload_n C dX10_many_87 rfl rfl ?_
          refine g_bipush (v := (8 : Int32)) C dX10_many_88 (by decide) ?_
          obtain ⟨q3, hr3, h⟩ := Option.bind_eq_some_iff.mp h
          refine call_X10_133 C dX10_many_90 (by decide) (c_X10_none E hr3) (by decide) rfl ?_
          refine g_goto (tgt := 104) C dX10_many_93 (by decide) ?_
          exact g_iret C R dX10_many_104 (fst_of h) (snd_of h)
      · rcases of_ites h with ⟨c6, h⟩ | ⟨c6, h⟩
        · refine g_tabIn (v := (5 : Int32)) (tgt := 105) C dX10_many_33 c6 (by decide) (by decide) rfl (by decide) ?_
          refine g_aload_n C dX10_many_105 rfl rfl ?_
          refine g_aload_n C dX10_many_106 rfl rfl ?_
          refine get_X10_213 C dX10_many_107 (by decide) ?_
          obtain ⟨q5, hr5, h⟩ := Option.bind_eq_some_iff.mp h
          refine call_X10_197 C dX10_many_110 (by decide) (c_X10_answer E hr5) (by decide) rfl ?_
          exact g_iret C R dX10_many_113 (fst_of h) (snd_of h)
        · rcases of_ites h with ⟨c8, h⟩ | ⟨c8, h⟩
          · refine g_tabIn (v := (6 : Int32)) (tgt := 114) C dX10_many_33 c8 (by decide) (by decide) rfl (by decide) ?_
            refine g_aload_n C dX10_many_114 rfl rfl ?_
            refine g_aload_n C dX10_many_115 rfl rfl ?_
            refine get_X10_216 C dX10_many_116 (by decide) ?_
            obtain ⟨q7, hr7, h⟩ := Option.bind_eq_some_iff.mp h
            refine call_X10_197 C dX10_many_119 (by decide) (c_X10_answer E hr7) (by decide) rfl ?_
            exact g_iret C R dX10_many_122 (fst_of h) (snd_of h)
          · rcases of_ites h with ⟨c10, h⟩ | ⟨c10, h⟩
            · refine g_tabIn (v := (7 : Int32)) (tgt := 123) C dX10_many_33 c10 (by decide) (by decide) rfl (by decide) ?_
              refine g_aload_n C dX10_many_123 rfl rfl ?_
              refine g_aload_n C dX10_many_124 rfl rfl ?_
              refine get_X10_219 C dX10_many_125 (by decide) ?_
              obtain ⟨q9, hr9, h⟩ := Option.bind_eq_some_iff.mp h
              refine call_X10_197 C dX10_many_128 (by decide) (c_X10_answer E hr9) (by decide) rfl ?_
              exact g_iret C R dX10_many_131 (fst_of h) (snd_of h)
            · rcases of_ites h with ⟨c14, h⟩ | ⟨c14, h⟩
              · refine g_tabIn (v := (8 : Int32)) (tgt := 132) C dX10_many_33 c14 (by decide) (by decide) rfl (by decide) ?_
                refine g_aload_n C dX10_many_132 rfl rfl ?_
                obtain ⟨r11, hr11, h⟩ := Option.bind_eq_some_iff.mp h
                refine call_X10_222 C dX10_many_133 (by decide) (c_X10_hasNoWeather E hr11) (by decide) rfl ?_
                refine g_if_eq (tgt := 148) C dX10_many_136 (by decide) h (fun h => ?_) (fun h => ?_)
                · refine g_aload_n C dX10_many_148 rfl rfl ?_
                  refine g_aload_n C dX10_many_149 rfl rfl ?_
                  refine get_X10_225 C dX10_many_150 (by decide) ?_
                  obtain ⟨q12, hr12, h⟩ := Option.bind_eq_some_iff.mp h
                  refine call_X10_197 C dX10_many_153 (by decide) (c_X10_answer E hr12) (by decide) rfl ?_
                  exact g_iret C R dX10_many_156 (fst_of h) (snd_of h)
                · refine g_aload_n C dX10_many_139 rfl rfl ?_
                  refine g_bipush (v := (8 : Int32)) C dX10_many_140 (by decide) ?_
                  obtain ⟨q13, hr13, h⟩ := Option.bind_eq_some_iff.mp h
                  refine call_X10_133 C dX10_many_142 (by decide) (c_X10_none E hr13) (by decide) rfl ?_
                  refine g_goto (tgt := 156) C dX10_many_145 (by decide) ?_
                  exact g_iret C R dX10_many_156 (fst_of h) (snd_of h)
              · rcases of_ites h with ⟨c16, h⟩ | ⟨c16, h⟩
                · refine g_tabIn (v := (9 : Int32)) (tgt := 157) C dX10_many_33 c16 (by decide) (by decide) rfl (by decide) ?_
                  refine g_aload_n C dX10_many_157 rfl rfl ?_
                  refine g_aload_n C dX10_many_158 rfl rfl ?_
                  refine get_X10_228 C dX10_many_159 (by decide) ?_
                  obtain ⟨q15, hr15, h⟩ := Option.bind_eq_some_iff.mp h
                  refine call_X10_197 C dX10_many_162 (by decide) (c_X10_answer E hr15) (by decide) rfl ?_
                  exact g_iret C R dX10_many_165 (fst_of h) (snd_of h)
                · rcases of_ites h with ⟨c18, h⟩ | ⟨c18, h⟩
                  · refine g_tabIn (v := (10 : Int32)) (tgt := 166) C dX10_many_33 c18 (by decide) (by decide) rfl (by decide) ?_
                    refine g_aload_n C dX10_many_166 rfl rfl ?_
                    refine g_aload_n C dX10_many_167 rfl rfl ?_
                    refine get_X10_231 C dX10_many_168 (by decide) ?_
                    obtain ⟨q17, hr17, h⟩ := Option.bind_eq_some_iff.mp h
                    refine call_X10_197 C dX10_many_171 (by decide) (c_X10_answer E hr17) (by decide) rfl ?_
                    exact g_iret C R dX10_many_174 (fst_of h) (snd_of h)
                  · rcases of_ites h with ⟨c20, h⟩ | ⟨c20, h⟩
                    · refine g_tabIn (v := (11 : Int32)) (tgt := 175) C dX10_many_33 c20 (by decide) (by decide) rfl (by decide) ?_
                      refine g_aload_n C dX10_many_175 rfl rfl ?_
                      refine g_aload_n C dX10_many_176 rfl rfl ?_
                      refine get_X10_234 C dX10_many_177 (by decide) ?_
                      obtain ⟨q19, hr19, h⟩ := Option.bind_eq_some_iff.mp h
                      refine call_X10_197 C dX10_many_180 (by decide) (c_X10_answer E hr19) (by decide) rfl ?_
                      exact g_iret C R dX10_many_183 (fst_of h) (snd_of h)
                    · refine g_tabOut (n := 8) (tgt := 184) C dX10_many_33 ⟨c4, c6, c8, c10, c14, c16, c18, c20, trivial⟩ (by decide) (by decide) ?_
                      refine g_aload_n C dX10_many_184 rfl rfl ?_
                      refine g_aload_n C dX10_many_185 rfl rfl ?_
                      refine get_X10_194 C dX10_many_186 (by decide) ?_
                      refine g_iload_n C dX10_many_189 rfl rfl ?_
                      obtain ⟨hb21, h⟩ := of_ite h
                      refine ld_9 (j := _) C dX10_many_190 (by decide) hb21 rfl ?_
                      obtain ⟨q22, hr22, h⟩ := Option.bind_eq_some_iff.mp h
                      refine call_X10_197 C dX10_many_191 (by decide) (c_X10_answer E hr22) (by decide) rfl ?_
                      exact g_iret C R dX10_many_194 (fst_of h) (snd_of h)
    · refine g_aload_n C dX10_many_10 rfl rfl ?_
      refine g_iconst (v := (5 : Int32)) C dX10_many_11 (by decide) ?_
      obtain ⟨q23, hr23, h⟩ := Option.bind_eq_some_iff.mp h
      refine call_X10_133 C dX10_many_12 (by decide) (c_X10_none E hr23) (by decide) rfl ?_
      exact g_iret C R dX10_many_15 (fst_of h) (snd_of h)
noncomputable def f_X10_isNo (x1 : Int32) (x2 : Int32) (M : Mem) : Option Int32 :=
  if x2 < 0 then
    some (1 : Int32)
  else
    if inb x1 4 = true then
     if x2 < (M.1 9 0 x1.toNatClampNeg) then
       some (0 : Int32)
     else
       some (1 : Int32)
    else none
set_option maxRecDepth 20000 in
set_option maxHeartbeats 2000000 in
theorem c_X10_isNo (E : wEnv) {x1 : Int32} {x2 : Int32} {M : Mem} {q : Int32} (h : f_X10_isNo x1 x2 M = some q) : Mt E yX10_isNo cX10_isNo 3 (some .boolean) 0 [.ref (ad E 0 0), .int x1, .int x2] M (some (.int q)) M := by
  unfold f_X10_isNo at h
  refine mt_intro (own := RX10) (lv0 := [(0, .ref (ad E 0 0)), (1, .int x1), (2, .int x2)]) (by decide) rfl rfl rfl (fun Y C R => ?_)
  refine g_iload_n C dX10_isNo_0 rfl rfl ?_
  refine g_if_lt (tgt := 20) C dX10_isNo_1 (by decide) h (fun h => ?_) (fun h => ?_)
  · refine g_iconst (v := (1 : Int32)) C dX10_isNo_20 (by decide) ?_
    refine g_goto (tgt := 25) C dX10_isNo_21 (by decide) ?_
    exact g_zret C R dX10_isNo_25 (Option.some.inj h) (Or.inr rfl) rfl
  · refine g_iload_n C dX10_isNo_4 rfl rfl ?_
    refine g_aload_n C dX10_isNo_5 rfl rfl ?_
    refine get_X10_19 C dX10_isNo_6 (by decide) ?_
    refine get_X10_175 C dX10_isNo_9 (by decide) ?_
    refine get_X10_194 C dX10_isNo_12 (by decide) ?_
    refine g_iload_n C dX10_isNo_15 rfl rfl ?_
    obtain ⟨hb1, h⟩ := of_ite h
    refine ld_9 (j := _) C dX10_isNo_16 (by decide) hb1 rfl ?_
    refine g_icmp_lt (tgt := 24) C dX10_isNo_17 (by decide) h (fun h => ?_) (fun h => ?_)
    · refine g_iconst (v := (0 : Int32)) C dX10_isNo_24 (by decide) ?_
      exact g_zret C R dX10_isNo_25 (Option.some.inj h) (Or.inl rfl) rfl
    · refine g_iconst (v := (1 : Int32)) C dX10_isNo_20 (by decide) ?_
      refine g_goto (tgt := 25) C dX10_isNo_21 (by decide) ?_
      exact g_zret C R dX10_isNo_25 (Option.some.inj h) (Or.inr rfl) rfl
noncomputable def f_X10_juror (x1 : Int32) (x2 : Int32) (M : Mem) : Option (Int32 × Mem) :=
  (f_X10_isNo (0 : Int32) x1 M).bind fun r1 =>
  if r1 = 0 then
    if x2 = (0 : Int32) then
      if inb x1 10 = true then
       (f_X10_answer (M.1 21 0 x1.toNatClampNeg) M).bind fun q3 =>
       some (q3.1, q3.2)
      else none
    else
    if x2 = (1 : Int32) then
      if inb x1 10 = true then
       (f_X10_answer (M.1 11 0 x1.toNatClampNeg) M).bind fun q6 =>
       some (q6.1, q6.2)
      else none
    else
    if x2 = (2 : Int32) then
      if inb x1 10 = true then
       (f_X10_answer (M.1 12 0 x1.toNatClampNeg) M).bind fun q9 =>
       some (q9.1, q9.2)
      else none
    else
    if x2 = (3 : Int32) then
      if inb x1 10 = true then
       (f_X10_answer (M.1 13 0 x1.toNatClampNeg) M).bind fun q12 =>
       some (q12.1, q12.2)
      else none
    else
      (f_X10_none (5 : Int32) M).bind fun q14 =>
      some (q14.1, q14.2)
  else
    (f_X10_none (2 : Int32) M).bind fun q15 =>
    some (q15.1, q15.2)
set_option maxRecDepth 20000 in
set_option maxHeartbeats 2000000 in
theorem c_X10_juror (E : wEnv) {x1 : Int32} {x2 : Int32} {M : Mem} {q : (Int32 × Mem)} (h : f_X10_juror x1 x2 M = some q) : Mt E yX10_juror cX10_juror 3 (some .int) 1 [.ref (ad E 0 0), .int x1, .int x2] M (some (.int q.1)) q.2 := by
  unfold f_X10_juror at h
  refine mt_intro (own := RX10) (lv0 := [(0, .ref (ad E 0 0)), (1, .int x1), (2, .int x2)]) (by decide) rfl rfl rfl (fun Y C R => ?_)
  refine g_aload_n C dX10_juror_0 rfl rfl ?_
  refine g_iconst (v := (0 : Int32)) C dX10_juror_1 (by decide) ?_
  refine g_iload_n C dX10_juror_2 rfl rfl ?_
  obtain ⟨r1, hr1, h⟩ := Option.bind_eq_some_iff.mp h
  refine call_X10_237 C dX10_juror_3 (by decide) (c_X10_isNo E hr1) (by decide) rfl ?_
  refine g_if_eq (tgt := 15) C dX10_juror_6 (by decide) h (fun h => ?_) (fun h => ?_)
  · refine g_iload_n C dX10_juror_15 rfl rfl ?_
    rcases of_ites h with ⟨c4, h⟩ | ⟨c4, h⟩
    · refine g_tabIn (v := (0 : Int32)) (tgt := 48) C dX10_juror_16 c4 (by decide) (by decide) rfl (by decide) ?_
      refine g_aload_n C dX10_juror_48 rfl rfl ?_
      refine g_aload_n C dX10_juror_49 rfl rfl ?_
      refine get_X10_19 C dX10_juror_50 (by decide) ?_
      refine get_X10_182 C dX10_juror_53 (by decide) ?_
      refine get_X10_241 C dX10_juror_56 (by decide) ?_
      refine g_iload_n C dX10_juror_59 rfl rfl ?_
      obtain ⟨hb2, h⟩ := of_ite h
      refine ld_21 (j := _) C dX10_juror_60 (by decide) hb2 rfl ?_
      obtain ⟨q3, hr3, h⟩ := Option.bind_eq_some_iff.mp h
      refine call_X10_197 C dX10_juror_61 (by decide) (c_X10_answer E hr3) (by decide) rfl ?_
      exact g_iret C R dX10_juror_64 (fst_of h) (snd_of h)
    · rcases of_ites h with ⟨c7, h⟩ | ⟨c7, h⟩
      · refine g_tabIn (v := (1 : Int32)) (tgt := 65) C dX10_juror_16 c7 (by decide) (by decide) rfl (by decide) ?_
        refine g_aload_n C dX10_juror_65 rfl rfl ?_
        refine g_aload_n C dX10_juror_66 rfl rfl ?_
        refine get_X10_19 C dX10_juror_67 (by decide) ?_
        refine get_X10_175 C dX10_juror_70 (by decide) ?_
        refine get_X10_244 C dX10_juror_73 (by decide) ?_
        refine g_iload_n C dX10_juror_76 rfl rfl ?_
        obtain ⟨hb5, h⟩ := of_ite h
        refine ld_11 (j := _) C dX10_juror_77 (by decide) hb5 rfl ?_
        obtain ⟨q6, hr6, h⟩ := Option.bind_eq_some_iff.mp h
        refine call_X10_197 C dX10_juror_78 (by decide) (c_X10_answer E hr6) (by decide) rfl ?_
        exact g_iret C R dX10_juror_81 (fst_of h) (snd_of h)
      · rcases of_ites h with ⟨c10, h⟩ | ⟨c10, h⟩
        · refine g_tabIn (v := (2 : Int32)) (tgt := 82) C dX10_juror_16 c10 (by decide) (by decide) rfl (by decide) ?_
          refine g_aload_n C dX10_juror_82 rfl rfl ?_
          refine g_aload_n C dX10_juror_83 rfl rfl ?_
          refine get_X10_19 C dX10_juror_84 (by decide) ?_
          refine get_X10_175 C dX10_juror_87 (by decide) ?_
          refine get_X10_247 C dX10_juror_90 (by decide) ?_
          refine g_iload_n C dX10_juror_93 rfl rfl ?_
          obtain ⟨hb8, h⟩ := of_ite h
          refine ld_12 (j := _) C dX10_juror_94 (by decide) hb8 rfl ?_
          obtain ⟨q9, hr9, h⟩ := Option.bind_eq_some_iff.mp h
          refine call_X10_197 C dX10_juror_95 (by decide) (c_X10_answer E hr9) (by decide) rfl ?_
          exact g_iret C R dX10_juror_98 (fst_of h) (snd_of h)
        · rcases of_ites h with ⟨c13, h⟩ | ⟨c13, h⟩
          · refine g_tabIn (v := (3 : Int32)) (tgt := 99) C dX10_juror_16 c13 (by decide) (by decide) rfl (by decide) ?_
            refine g_aload_n C dX10_juror_99 rfl rfl ?_
            refine g_aload_n C dX10_juror_100 rfl rfl ?_
            refine get_X10_19 C dX10_juror_101 (by decide) ?_
            refine get_X10_175 C dX10_juror_104 (by decide) ?_
            refine get_X10_250 C dX10_juror_107 (by decide) ?_
            refine g_iload_n C dX10_juror_110 rfl rfl ?_
            obtain ⟨hb11, h⟩ := of_ite h
            refine ld_13 (j := _) C dX10_juror_111 (by decide) hb11 rfl ?_
            obtain ⟨q12, hr12, h⟩ := Option.bind_eq_some_iff.mp h
            refine call_X10_197 C dX10_juror_112 (by decide) (c_X10_answer E hr12) (by decide) rfl ?_
            exact g_iret C R dX10_juror_115 (fst_of h) (snd_of h)
          · refine g_tabOut (n := 4) (tgt := 116) C dX10_juror_16 ⟨c4, c7, c10, c13, trivial⟩ (by decide) (by decide) ?_
            refine g_aload_n C dX10_juror_116 rfl rfl ?_
            refine g_iconst (v := (5 : Int32)) C dX10_juror_117 (by decide) ?_
            obtain ⟨q14, hr14, h⟩ := Option.bind_eq_some_iff.mp h
            refine call_X10_133 C dX10_juror_118 (by decide) (c_X10_none E hr14) (by decide) rfl ?_
            exact g_iret C R dX10_juror_121 (fst_of h) (snd_of h)
  · refine g_aload_n C dX10_juror_9 rfl rfl ?_
    refine g_iconst (v := (2 : Int32)) C dX10_juror_10 (by decide) ?_
    obtain ⟨q15, hr15, h⟩ := Option.bind_eq_some_iff.mp h
    refine call_X10_133 C dX10_juror_11 (by decide) (c_X10_none E hr15) (by decide) rfl ?_
    exact g_iret C R dX10_juror_14 (fst_of h) (snd_of h)
noncomputable def f_X10_sways (x1 : Int32) (x2 : Int32) (M : Mem) : Option (Int32 × Mem) :=
  (f_X10_isNo (0 : Int32) x1 M).bind fun r1 =>
  if r1 = 0 then
    (f_X10_isNo (0 : Int32) x2 M).bind fun r3 =>
    if r3 = 0 then
      if x1 = x2 then
        (f_X10_none (5 : Int32) M).bind fun q6 =>
        some (q6.1, q6.2)
      else
        (f_X1_swayOf 0 x1 x2 M).bind fun r4 =>
        (f_X10_answer r4 M).bind fun q5 =>
        some (q5.1, q5.2)
    else
      (f_X10_none (2 : Int32) M).bind fun q7 =>
      some (q7.1, q7.2)
  else
    (f_X10_none (2 : Int32) M).bind fun q2 =>
    some (q2.1, q2.2)
set_option maxRecDepth 20000 in
set_option maxHeartbeats 2000000 in
theorem c_X10_sways (E : wEnv) {x1 : Int32} {x2 : Int32} {M : Mem} {q : (Int32 × Mem)} (h : f_X10_sways x1 x2 M = some q) : Mt E yX10_sways cX10_sways 3 (some .int) 1 [.ref (ad E 0 0), .int x1, .int x2] M (some (.int q.1)) q.2 := by
  unfold f_X10_sways at h
  refine mt_intro (own := RX10) (lv0 := [(0, .ref (ad E 0 0)), (1, .int x1), (2, .int x2)]) (by decide) rfl rfl rfl (fun Y C R => ?_)
  refine g_aload_n C dX10_sways_0 rfl rfl ?_
  refine g_iconst (v := (0 : Int32)) C dX10_sways_1 (by decide) ?_
  refine g_iload_n C dX10_sways_2 rfl rfl ?_
  obtain ⟨r1, hr1, h⟩ := Option.bind_eq_some_iff.mp h
  refine call_X10_237 C dX10_sways_3 (by decide) (c_X10_isNo E hr1) (by decide) rfl ?_
  refine g_if_ne (tgt := 18) C dX10_sways_6 (by decide) h (fun h => ?_) (fun h => ?_)
  · refine g_aload_n C dX10_sways_18 rfl rfl ?_
    refine g_iconst (v := (2 : Int32)) C dX10_sways_19 (by decide) ?_
    obtain ⟨q2, hr2, h⟩ := Option.bind_eq_some_iff.mp h
    refine call_X10_133 C dX10_sways_20 (by decide) (c_X10_none E hr2) (by decide) rfl ?_
    exact g_iret C R dX10_sways_23 (fst_of h) (snd_of h)
  · refine g_aload_n C dX10_sways_9 rfl rfl ?_
    refine g_iconst (v := (0 : Int32)) C dX10_sways_10 (by decide) ?_
    refine g_iload_n C dX10_sways_11 rfl rfl ?_
    obtain ⟨r3, hr3, h⟩ := Option.bind_eq_some_iff.mp h
    refine call_X10_237 C dX10_sways_12 (by decide) (c_X10_isNo E hr3) (by decide) rfl ?_
    refine g_if_eq (tgt := 24) C dX10_sways_15 (by decide) h (fun h => ?_) (fun h => ?_)
    · refine g_iload_n C dX10_sways_24 rfl rfl ?_
      refine g_iload_n C dX10_sways_25 rfl rfl ?_
      refine g_icmp_ne (tgt := 35) C dX10_sways_26 (by decide) h (fun h => ?_) (fun h => ?_)
      · refine g_aload_n C dX10_sways_35 rfl rfl ?_
        refine g_aload_n C dX10_sways_36 rfl rfl ?_
        refine get_X10_19 C dX10_sways_37 (by decide) ?_
        refine get_X10_175 C dX10_sways_40 (by decide) ?_
        refine g_iload_n C dX10_sways_43 rfl rfl ?_
        refine g_iload_n C dX10_sways_44 rfl rfl ?_
        obtain ⟨r4, hr4, h⟩ := Option.bind_eq_some_iff.mp h
        refine call_X10_253 C dX10_sways_45 (by decide) (c_X1_swayOf E (by decide) hr4) (by decide) rfl ?_
        obtain ⟨q5, hr5, h⟩ := Option.bind_eq_some_iff.mp h
        refine call_X10_197 C dX10_sways_48 (by decide) (c_X10_answer E hr5) (by decide) rfl ?_
        exact g_iret C R dX10_sways_51 (fst_of h) (snd_of h)
      · refine g_aload_n C dX10_sways_29 rfl rfl ?_
        refine g_iconst (v := (5 : Int32)) C dX10_sways_30 (by decide) ?_
        obtain ⟨q6, hr6, h⟩ := Option.bind_eq_some_iff.mp h
        refine call_X10_133 C dX10_sways_31 (by decide) (c_X10_none E hr6) (by decide) rfl ?_
        exact g_iret C R dX10_sways_34 (fst_of h) (snd_of h)
    · refine g_aload_n C dX10_sways_18 rfl rfl ?_
      refine g_iconst (v := (2 : Int32)) C dX10_sways_19 (by decide) ?_
      obtain ⟨q7, hr7, h⟩ := Option.bind_eq_some_iff.mp h
      refine call_X10_133 C dX10_sways_20 (by decide) (c_X10_none E hr7) (by decide) rfl ?_
      exact g_iret C R dX10_sways_23 (fst_of h) (snd_of h)
noncomputable def f_X10_proof (x1 : Int32) (M : Mem) : Option (Int32 × Mem) :=
  (f_X10_isNo (1 : Int32) x1 M).bind fun r1 =>
  if r1 = 0 then
    if inb x1 6 = true then
     (f_X10_answer (M.1 16 0 x1.toNatClampNeg) M).bind fun q3 =>
     some (q3.1, q3.2)
    else none
  else
    (f_X10_none (2 : Int32) M).bind fun q4 =>
    some (q4.1, q4.2)
set_option maxRecDepth 20000 in
set_option maxHeartbeats 2000000 in
theorem c_X10_proof (E : wEnv) {x1 : Int32} {M : Mem} {q : (Int32 × Mem)} (h : f_X10_proof x1 M = some q) : Mt E yX10_proof cX10_proof 2 (some .int) 1 [.ref (ad E 0 0), .int x1] M (some (.int q.1)) q.2 := by
  unfold f_X10_proof at h
  refine mt_intro (own := RX10) (lv0 := [(0, .ref (ad E 0 0)), (1, .int x1)]) (by decide) rfl rfl rfl (fun Y C R => ?_)
  refine g_aload_n C dX10_proof_0 rfl rfl ?_
  refine g_iconst (v := (1 : Int32)) C dX10_proof_1 (by decide) ?_
  refine g_iload_n C dX10_proof_2 rfl rfl ?_
  obtain ⟨r1, hr1, h⟩ := Option.bind_eq_some_iff.mp h
  refine call_X10_237 C dX10_proof_3 (by decide) (c_X10_isNo E hr1) (by decide) rfl ?_
  refine g_if_eq (tgt := 15) C dX10_proof_6 (by decide) h (fun h => ?_) (fun h => ?_)
  · refine g_aload_n C dX10_proof_15 rfl rfl ?_
    refine g_aload_n C dX10_proof_16 rfl rfl ?_
    refine get_X10_19 C dX10_proof_17 (by decide) ?_
    refine get_X10_175 C dX10_proof_20 (by decide) ?_
    refine get_X10_256 C dX10_proof_23 (by decide) ?_
    refine g_iload_n C dX10_proof_26 rfl rfl ?_
    obtain ⟨hb2, h⟩ := of_ite h
    refine ld_16 (j := _) C dX10_proof_27 (by decide) hb2 rfl ?_
    obtain ⟨q3, hr3, h⟩ := Option.bind_eq_some_iff.mp h
    refine call_X10_197 C dX10_proof_28 (by decide) (c_X10_answer E hr3) (by decide) rfl ?_
    exact g_iret C R dX10_proof_31 (fst_of h) (snd_of h)
  · refine g_aload_n C dX10_proof_9 rfl rfl ?_
    refine g_iconst (v := (2 : Int32)) C dX10_proof_10 (by decide) ?_
    obtain ⟨q4, hr4, h⟩ := Option.bind_eq_some_iff.mp h
    refine call_X10_133 C dX10_proof_11 (by decide) (c_X10_none E hr4) (by decide) rfl ?_
    exact g_iret C R dX10_proof_14 (fst_of h) (snd_of h)
noncomputable def f_X10_isNoVerdict (l0 : Int64) : Option Int32 :=
  if (lg_cmp l0 (-1 : Int64)) < 0 then
    some (1 : Int32)
  else
    if 0 < (lg_cmp l0 (1 : Int64)) then
      some (1 : Int32)
    else
      some (0 : Int32)
set_option maxRecDepth 20000 in
set_option maxHeartbeats 2000000 in
theorem c_X10_isNoVerdict (E : wEnv) {l0 : Int64} {M : Mem} {q : Int32} (h : f_X10_isNoVerdict l0 = some q) : Mt E yX10_isNoVerdict cX10_isNoVerdict 2 (some .boolean) 0 [.long l0] M (some (.int q)) M := by
  unfold f_X10_isNoVerdict at h
  refine mt_intro (own := RX10) (lv0 := [(0, .long l0)]) (by decide) rfl rfl rfl (fun Y C R => ?_)
  refine g_lload_n C dX10_isNoVerdict_0 rfl rfl ?_
  refine g_ldc2 C dX10_isNoVerdict_1 qc_X10_451 ?_
  refine g_lcmp C dX10_isNoVerdict_4 ?_
  refine g_if_lt (tgt := 14) C dX10_isNoVerdict_5 (by decide) h (fun h => ?_) (fun h => ?_)
  · refine g_iconst (v := (1 : Int32)) C dX10_isNoVerdict_14 (by decide) ?_
    refine g_goto (tgt := 19) C dX10_isNoVerdict_15 (by decide) ?_
    exact g_zret C R dX10_isNoVerdict_19 (Option.some.inj h) (Or.inr rfl) rfl
  · refine g_lload_n C dX10_isNoVerdict_8 rfl rfl ?_
    refine g_lconst (v := (1 : Int64)) C dX10_isNoVerdict_9 (by decide) ?_
    refine g_lcmp C dX10_isNoVerdict_10 ?_
    refine g_if_le (tgt := 18) C dX10_isNoVerdict_11 (by decide) h (fun h => ?_) (fun h => ?_)
    · refine g_iconst (v := (0 : Int32)) C dX10_isNoVerdict_18 (by decide) ?_
      exact g_zret C R dX10_isNoVerdict_19 (Option.some.inj h) (Or.inl rfl) rfl
    · refine g_iconst (v := (1 : Int32)) C dX10_isNoVerdict_14 (by decide) ?_
      refine g_goto (tgt := 19) C dX10_isNoVerdict_15 (by decide) ?_
      exact g_zret C R dX10_isNoVerdict_19 (Option.some.inj h) (Or.inr rfl) rfl
noncomputable def f_X10_follows (x1 : Int32) (x2 : Int32) (M : Mem) : Option (Int32 × Mem) :=
  (f_X10_isNo (2 : Int32) x1 M).bind fun r1 =>
  if r1 = 0 then
    (f_X10_isNoVerdict x2.toInt64).bind fun r2 =>
    if r2 = 0 then
      (f_X1_weatherBehind 0 x1 x2 M).bind fun r3 =>
      (f_X10_answer r3 M).bind fun q4 =>
      some (q4.1, q4.2)
    else
      (f_X10_none (5 : Int32) M).bind fun q5 =>
      some (q5.1, q5.2)
  else
    (f_X10_none (2 : Int32) M).bind fun q6 =>
    some (q6.1, q6.2)
set_option maxRecDepth 20000 in
set_option maxHeartbeats 2000000 in
theorem c_X10_follows (E : wEnv) {x1 : Int32} {x2 : Int32} {M : Mem} {q : (Int32 × Mem)} (h : f_X10_follows x1 x2 M = some q) : Mt E yX10_follows cX10_follows 3 (some .int) 1 [.ref (ad E 0 0), .int x1, .int x2] M (some (.int q.1)) q.2 := by
  unfold f_X10_follows at h
  refine mt_intro (own := RX10) (lv0 := [(0, .ref (ad E 0 0)), (1, .int x1), (2, .int x2)]) (by decide) rfl rfl rfl (fun Y C R => ?_)
  refine g_aload_n C dX10_follows_0 rfl rfl ?_
  refine g_iconst (v := (2 : Int32)) C dX10_follows_1 (by decide) ?_
  refine g_iload_n C dX10_follows_2 rfl rfl ?_
  obtain ⟨r1, hr1, h⟩ := Option.bind_eq_some_iff.mp h
  refine call_X10_237 C dX10_follows_3 (by decide) (c_X10_isNo E hr1) (by decide) rfl ?_
  refine g_if_eq (tgt := 15) C dX10_follows_6 (by decide) h (fun h => ?_) (fun h => ?_)
  · refine g_iload_n C dX10_follows_15 rfl rfl ?_
    refine g_i2l C dX10_follows_16 ?_
    obtain ⟨r2, hr2, h⟩ := Option.bind_eq_some_iff.mp h
    refine call_X10_259 C dX10_follows_17 (c_X10_isNoVerdict E hr2) (by decide) rfl ?_
    refine g_if_eq (tgt := 29) C dX10_follows_20 (by decide) h (fun h => ?_) (fun h => ?_)
    · refine g_aload_n C dX10_follows_29 rfl rfl ?_
      refine g_aload_n C dX10_follows_30 rfl rfl ?_
      refine get_X10_19 C dX10_follows_31 (by decide) ?_
      refine get_X10_175 C dX10_follows_34 (by decide) ?_
      refine g_iload_n C dX10_follows_37 rfl rfl ?_
      refine g_iload_n C dX10_follows_38 rfl rfl ?_
      obtain ⟨r3, hr3, h⟩ := Option.bind_eq_some_iff.mp h
      refine call_X10_263 C dX10_follows_39 (by decide) (c_X1_weatherBehind E (by decide) hr3) (by decide) rfl ?_
      obtain ⟨q4, hr4, h⟩ := Option.bind_eq_some_iff.mp h
      refine call_X10_197 C dX10_follows_42 (by decide) (c_X10_answer E hr4) (by decide) rfl ?_
      exact g_iret C R dX10_follows_45 (fst_of h) (snd_of h)
    · refine g_aload_n C dX10_follows_23 rfl rfl ?_
      refine g_iconst (v := (5 : Int32)) C dX10_follows_24 (by decide) ?_
      obtain ⟨q5, hr5, h⟩ := Option.bind_eq_some_iff.mp h
      refine call_X10_133 C dX10_follows_25 (by decide) (c_X10_none E hr5) (by decide) rfl ?_
      exact g_iret C R dX10_follows_28 (fst_of h) (snd_of h)
  · refine g_aload_n C dX10_follows_9 rfl rfl ?_
    refine g_iconst (v := (2 : Int32)) C dX10_follows_10 (by decide) ?_
    obtain ⟨q6, hr6, h⟩ := Option.bind_eq_some_iff.mp h
    refine call_X10_133 C dX10_follows_11 (by decide) (c_X10_none E hr6) (by decide) rfl ?_
    exact g_iret C R dX10_follows_14 (fst_of h) (snd_of h)
noncomputable def f_X10_grows (x1 : Int32) (x2 : Int32) (M : Mem) : Option (Int32 × Mem) :=
  (f_X10_isNo (3 : Int32) x1 M).bind fun r1 =>
  if r1 = 0 then
    (f_X10_isNo (2 : Int32) x2 M).bind fun r3 =>
    if r3 = 0 then
      (f_X1_growthOf 0 x1 x2 M).bind fun r4 =>
      (f_X10_answer r4 M).bind fun q5 =>
      some (q5.1, q5.2)
    else
      (f_X10_none (2 : Int32) M).bind fun q6 =>
      some (q6.1, q6.2)
  else
    (f_X10_none (2 : Int32) M).bind fun q2 =>
    some (q2.1, q2.2)
set_option maxRecDepth 20000 in
set_option maxHeartbeats 2000000 in
theorem c_X10_grows (E : wEnv) {x1 : Int32} {x2 : Int32} {M : Mem} {q : (Int32 × Mem)} (h : f_X10_grows x1 x2 M = some q) : Mt E yX10_grows cX10_grows 3 (some .int) 1 [.ref (ad E 0 0), .int x1, .int x2] M (some (.int q.1)) q.2 := by
  unfold f_X10_grows at h
  refine mt_intro (own := RX10) (lv0 := [(0, .ref (ad E 0 0)), (1, .int x1), (2, .int x2)]) (by decide) rfl rfl rfl (fun Y C R => ?_)
  refine g_aload_n C dX10_grows_0 rfl rfl ?_
  refine g_iconst (v := (3 : Int32)) C dX10_grows_1 (by decide) ?_
  refine g_iload_n C dX10_grows_2 rfl rfl ?_
  obtain ⟨r1, hr1, h⟩ := Option.bind_eq_some_iff.mp h
  refine call_X10_237 C dX10_grows_3 (by decide) (c_X10_isNo E hr1) (by decide) rfl ?_
  refine g_if_ne (tgt := 18) C dX10_grows_6 (by decide) h (fun h => ?_) (fun h => ?_)
  · refine g_aload_n C dX10_grows_18 rfl rfl ?_
    refine g_iconst (v := (2 : Int32)) C dX10_grows_19 (by decide) ?_
    obtain ⟨q2, hr2, h⟩ := Option.bind_eq_some_iff.mp h
    refine call_X10_133 C dX10_grows_20 (by decide) (c_X10_none E hr2) (by decide) rfl ?_
    exact g_iret C R dX10_grows_23 (fst_of h) (snd_of h)
  · refine g_aload_n C dX10_grows_9 rfl rfl ?_
    refine g_iconst (v := (2 : Int32)) C dX10_grows_10 (by decide) ?_
    refine g_iload_n C dX10_grows_11 rfl rfl ?_
    obtain ⟨r3, hr3, h⟩ := Option.bind_eq_some_iff.mp h
    refine call_X10_237 C dX10_grows_12 (by decide) (c_X10_isNo E hr3) (by decide) rfl ?_
    refine g_if_eq (tgt := 24) C dX10_grows_15 (by decide) h (fun h => ?_) (fun h => ?_)
    · refine g_aload_n C dX10_grows_24 rfl rfl ?_
      refine g_aload_n C dX10_grows_25 rfl rfl ?_
      refine get_X10_19 C dX10_grows_26 (by decide) ?_
      refine get_X10_175 C dX10_grows_29 (by decide) ?_
      refine g_iload_n C dX10_grows_32 rfl rfl ?_
      refine g_iload_n C dX10_grows_33 rfl rfl ?_
      obtain ⟨r4, hr4, h⟩ := Option.bind_eq_some_iff.mp h
      refine call_X10_266 C dX10_grows_34 (by decide) (c_X1_growthOf E (by decide) hr4) (by decide) rfl ?_
      obtain ⟨q5, hr5, h⟩ := Option.bind_eq_some_iff.mp h
      refine call_X10_197 C dX10_grows_37 (by decide) (c_X10_answer E hr5) (by decide) rfl ?_
      exact g_iret C R dX10_grows_40 (fst_of h) (snd_of h)
    · refine g_aload_n C dX10_grows_18 rfl rfl ?_
      refine g_iconst (v := (2 : Int32)) C dX10_grows_19 (by decide) ?_
      obtain ⟨q6, hr6, h⟩ := Option.bind_eq_some_iff.mp h
      refine call_X10_133 C dX10_grows_20 (by decide) (c_X10_none E hr6) (by decide) rfl ?_
      exact g_iret C R dX10_grows_23 (fst_of h) (snd_of h)
noncomputable def f_X10_crop (x1 : Int32) (M : Mem) : Option (Int32 × Mem) :=
  (f_X10_isNo (3 : Int32) x1 M).bind fun r1 =>
  if r1 = 0 then
    if inb x1 4 = true then
     (f_X10_answer (M.1 22 0 x1.toNatClampNeg) M).bind fun q3 =>
     some (q3.1, q3.2)
    else none
  else
    (f_X10_none (2 : Int32) M).bind fun q4 =>
    some (q4.1, q4.2)
set_option maxRecDepth 20000 in
set_option maxHeartbeats 2000000 in
theorem c_X10_crop (E : wEnv) {x1 : Int32} {M : Mem} {q : (Int32 × Mem)} (h : f_X10_crop x1 M = some q) : Mt E yX10_crop cX10_crop 2 (some .int) 1 [.ref (ad E 0 0), .int x1] M (some (.int q.1)) q.2 := by
  unfold f_X10_crop at h
  refine mt_intro (own := RX10) (lv0 := [(0, .ref (ad E 0 0)), (1, .int x1)]) (by decide) rfl rfl rfl (fun Y C R => ?_)
  refine g_aload_n C dX10_crop_0 rfl rfl ?_
  refine g_iconst (v := (3 : Int32)) C dX10_crop_1 (by decide) ?_
  refine g_iload_n C dX10_crop_2 rfl rfl ?_
  obtain ⟨r1, hr1, h⟩ := Option.bind_eq_some_iff.mp h
  refine call_X10_237 C dX10_crop_3 (by decide) (c_X10_isNo E hr1) (by decide) rfl ?_
  refine g_if_eq (tgt := 15) C dX10_crop_6 (by decide) h (fun h => ?_) (fun h => ?_)
  · refine g_aload_n C dX10_crop_15 rfl rfl ?_
    refine g_aload_n C dX10_crop_16 rfl rfl ?_
    refine get_X10_19 C dX10_crop_17 (by decide) ?_
    refine get_X10_182 C dX10_crop_20 (by decide) ?_
    refine get_X10_269 C dX10_crop_23 (by decide) ?_
    refine g_iload_n C dX10_crop_26 rfl rfl ?_
    obtain ⟨hb2, h⟩ := of_ite h
    refine ld_22 (j := _) C dX10_crop_27 (by decide) hb2 rfl ?_
    obtain ⟨q3, hr3, h⟩ := Option.bind_eq_some_iff.mp h
    refine call_X10_197 C dX10_crop_28 (by decide) (c_X10_answer E hr3) (by decide) rfl ?_
    exact g_iret C R dX10_crop_31 (fst_of h) (snd_of h)
  · refine g_aload_n C dX10_crop_9 rfl rfl ?_
    refine g_iconst (v := (2 : Int32)) C dX10_crop_10 (by decide) ?_
    obtain ⟨q4, hr4, h⟩ := Option.bind_eq_some_iff.mp h
    refine call_X10_133 C dX10_crop_11 (by decide) (c_X10_none E hr4) (by decide) rfl ?_
    exact g_iret C R dX10_crop_14 (fst_of h) (snd_of h)
noncomputable def f_X10_wrongRow (x1 : Int32) (x2 : Int32) (M : Mem) : Option Int32 :=
  (f_X10_wrongTray x1 M).bind fun r1 =>
  if r1 = 0 then
    if inb x1 4 = true then
     if (M.1 5 0 x1.toNatClampNeg) < x2 then
       some (4 : Int32)
     else
       some (0 : Int32)
    else none
  else
    some r1
set_option maxRecDepth 20000 in
set_option maxHeartbeats 2000000 in
theorem c_X10_wrongRow (E : wEnv) {x1 : Int32} {x2 : Int32} {M : Mem} {q : Int32} (h : f_X10_wrongRow x1 x2 M = some q) : Mt E yX10_wrongRow cX10_wrongRow 4 (some .int) 2 [.ref (ad E 0 0), .int x1, .int x2] M (some (.int q)) M := by
  unfold f_X10_wrongRow at h
  refine mt_intro (own := RX10) (lv0 := [(0, .ref (ad E 0 0)), (1, .int x1), (2, .int x2)]) (by decide) rfl rfl rfl (fun Y C R => ?_)
  refine g_aload_n C dX10_wrongRow_0 rfl rfl ?_
  refine g_iload_n C dX10_wrongRow_1 rfl rfl ?_
  obtain ⟨r1, hr1, h⟩ := Option.bind_eq_some_iff.mp h
  refine call_X10_453 C dX10_wrongRow_2 (by decide) (c_X10_wrongTray E hr1) (by decide) rfl ?_
  refine g_istore_n C dX10_wrongRow_5 rfl rfl ?_
  refine g_iload_n C dX10_wrongRow_6 rfl rfl ?_
  refine g_if_eq (tgt := 12) C dX10_wrongRow_7 (by decide) h (fun h => ?_) (fun h => ?_)
  · refine g_iload_n C dX10_wrongRow_12 rfl rfl ?_
    refine g_aload_n C dX10_wrongRow_13 rfl rfl ?_
    refine get_X10_10 C dX10_wrongRow_14 (by decide) ?_
    refine get_X10_456 C dX10_wrongRow_17 (by decide) ?_
    refine g_iload_n C dX10_wrongRow_20 rfl rfl ?_
    obtain ⟨hb2, h⟩ := of_ite h
    refine ld_5 (j := _) C dX10_wrongRow_21 (by decide) hb2 rfl ?_
    refine g_icmp_le (tgt := 29) C dX10_wrongRow_22 (by decide) h (fun h => ?_) (fun h => ?_)
    · refine g_iconst (v := (0 : Int32)) C dX10_wrongRow_29 (by decide) ?_
      exact g_iret C R dX10_wrongRow_30 (Option.some.inj h) rfl
    · refine g_iconst (v := (4 : Int32)) C dX10_wrongRow_25 (by decide) ?_
      refine g_goto (tgt := 30) C dX10_wrongRow_26 (by decide) ?_
      exact g_iret C R dX10_wrongRow_30 (Option.some.inj h) rfl
  · refine g_iload_n C dX10_wrongRow_10 rfl rfl ?_
    exact g_iret C R dX10_wrongRow_11 (Option.some.inj h) rfl
noncomputable def f_X10_copyLeanings_33 (x1 : Int32) (x2 : Int32) : Nat → Int32 → Mem → Option (Int32 × Mem)
  | 0, _, _ => none
  | n + 1, x4, M =>
  if x4 < x2 then
    if inb x4 10 = true then
     (f_X6_put x1 x4 ((M.1 21 0 x4.toNatClampNeg).toInt64) M).bind fun M4 =>
     f_X10_copyLeanings_33 x1 x2 n (x4 + (1 : Int32)) M4
    else none
  else
    (f_X10_answer x2 M).bind fun q2 =>
    some (q2.1, q2.2)
noncomputable def f_X10_copyLeanings (x1 : Int32) (M : Mem) : Option (Int32 × Mem) :=
  (f_X10_wrongRow x1 (M.1 9 0 0) M).bind fun r1 =>
  if r1 = 0 then
    f_X10_copyLeanings_33 x1 (M.1 9 0 0) FU (0 : Int32) M
  else
    (f_X10_none r1 M).bind fun q5 =>
    some (q5.1, q5.2)
set_option maxRecDepth 20000 in
set_option maxHeartbeats 2000000 in
theorem b_X10_copyLeanings_33 {E : wEnv} {Y : YT} (C : Cx E Y cX10_copyLeanings 5 RX10 3) {q : (Int32 × Mem)} (R : Rx E Y (some .int) (some (.int q.1)) q.2) {x1 : Int32} {x2 : Int32} (n : Nat) : ∀ {x4 : Int32} {M : Mem} (_ : f_X10_copyLeanings_33 x1 x2 n x4 M = some q), G E Y 5 M 33 [(0, .ref (ad E 0 0)), (1, .int x1), (2, .int x2), (4, .int x4)] [] := by
  induction n with
  | zero =>
    intro x4 M h
    cases (show none = some q from h)
  | succ n ih =>
    intro x4 M h
    rw [f_X10_copyLeanings_33] at h
    refine g_iload C dX10_copyLeanings_33 rfl ?_
    refine g_iload_n C dX10_copyLeanings_35 rfl rfl ?_
    refine g_icmp_ge (tgt := 69) C dX10_copyLeanings_36 (by decide) h (fun h => ?_) (fun h => ?_)
    · refine g_aload_n C dX10_copyLeanings_69 rfl rfl ?_
      refine g_iload_n C dX10_copyLeanings_70 rfl rfl ?_
      obtain ⟨q2, hr2, h⟩ := Option.bind_eq_some_iff.mp h
      refine call_X10_197 C dX10_copyLeanings_71 (by decide) (c_X10_answer E hr2) (by decide) rfl ?_
      exact g_iret C R dX10_copyLeanings_74 (fst_of h) (snd_of h)
    · refine g_aload_n C dX10_copyLeanings_39 rfl rfl ?_
      refine get_X10_10 C dX10_copyLeanings_40 (by decide) ?_
      refine g_iload_n C dX10_copyLeanings_43 rfl rfl ?_
      refine g_iload C dX10_copyLeanings_44 rfl ?_
      refine g_aload_n C dX10_copyLeanings_46 rfl rfl ?_
      refine get_X10_19 C dX10_copyLeanings_47 (by decide) ?_
      refine get_X10_182 C dX10_copyLeanings_50 (by decide) ?_
      refine get_X10_241 C dX10_copyLeanings_53 (by decide) ?_
      refine g_iload C dX10_copyLeanings_56 rfl ?_
      obtain ⟨hb3, h⟩ := of_ite h
      refine ld_21 (j := _) C dX10_copyLeanings_58 (by decide) hb3 rfl ?_
      refine g_i2l C dX10_copyLeanings_59 ?_
      obtain ⟨M4, hr4, h⟩ := Option.bind_eq_some_iff.mp h
      refine call_X10_129 C dX10_copyLeanings_60 (by decide) (c_X6_put E hr4) (by decide) rfl ?_
      refine g_iinc (w := (1 : Int32)) C dX10_copyLeanings_63 rfl (by decide) rfl ?_
      refine g_goto (tgt := 33) C dX10_copyLeanings_66 (by decide) ?_
      exact g_sub (ih h) ⟨rfl, rfl, rfl, rfl, trivial⟩
set_option maxRecDepth 20000 in
set_option maxHeartbeats 2000000 in
theorem c_X10_copyLeanings (E : wEnv) {x1 : Int32} {M : Mem} {q : (Int32 × Mem)} (h : f_X10_copyLeanings x1 M = some q) : Mt E yX10_copyLeanings cX10_copyLeanings 5 (some .int) 3 [.ref (ad E 0 0), .int x1] M (some (.int q.1)) q.2 := by
  unfold f_X10_copyLeanings at h
  refine mt_intro (own := RX10) (lv0 := [(0, .ref (ad E 0 0)), (1, .int x1)]) (by decide) rfl rfl rfl (fun Y C R => ?_)
  refine g_aload_n C dX10_copyLeanings_0 rfl rfl ?_
  refine get_X10_19 C dX10_copyLeanings_1 (by decide) ?_
  refine get_X10_175 C dX10_copyLeanings_4 (by decide) ?_
  refine get_X10_194 C dX10_copyLeanings_7 (by decide) ?_
  refine g_iconst (v := (0 : Int32)) C dX10_copyLeanings_10 (by decide) ?_
  refine ld_9 (j := 0) C dX10_copyLeanings_11 (by decide) (by decide) rfl ?_
  refine g_istore_n C dX10_copyLeanings_12 rfl rfl ?_
  refine g_aload_n C dX10_copyLeanings_13 rfl rfl ?_
  refine g_iload_n C dX10_copyLeanings_14 rfl rfl ?_
  refine g_iload_n C dX10_copyLeanings_15 rfl rfl ?_
  obtain ⟨r1, hr1, h⟩ := Option.bind_eq_some_iff.mp h
  refine call_X10_272 C dX10_copyLeanings_16 (by decide) (c_X10_wrongRow E hr1) (by decide) rfl ?_
  refine g_istore_n C dX10_copyLeanings_19 rfl rfl ?_
  refine g_iload_n C dX10_copyLeanings_20 rfl rfl ?_
  refine g_if_eq (tgt := 30) C dX10_copyLeanings_21 (by decide) h (fun h => ?_) (fun h => ?_)
  · refine g_iconst (v := (0 : Int32)) C dX10_copyLeanings_30 (by decide) ?_
    refine g_istore C dX10_copyLeanings_31 rfl ?_
    exact g_sub (b_X10_copyLeanings_33 C R _ h) ⟨rfl, rfl, rfl, rfl, trivial⟩
  · refine g_aload_n C dX10_copyLeanings_24 rfl rfl ?_
    refine g_iload_n C dX10_copyLeanings_25 rfl rfl ?_
    obtain ⟨q5, hr5, h⟩ := Option.bind_eq_some_iff.mp h
    refine call_X10_133 C dX10_copyLeanings_26 (by decide) (c_X10_none E hr5) (by decide) rfl ?_
    exact g_iret C R dX10_copyLeanings_29 (fst_of h) (snd_of h)
noncomputable def f_X10_show (x1 : Int32) (M : Mem) : Option (Int32 × Mem) :=
  (f_X10_isNo (1 : Int32) x1 M).bind fun r1 =>
  if r1 = 0 then
    (f_X3_wasShown 0 x1 M).bind fun r2 =>
    if r2 = 0 then
      (f_X3_present 0 0 x1 M).bind fun q3 =>
      (f_X10_answer q3.1 q3.2).bind fun q4 =>
      some (q4.1, q4.2)
    else
      (f_X10_none (9 : Int32) M).bind fun q5 =>
      some (q5.1, q5.2)
  else
    (f_X10_none (2 : Int32) M).bind fun q6 =>
    some (q6.1, q6.2)
set_option maxRecDepth 20000 in
set_option maxHeartbeats 2000000 in
theorem c_X10_show (E : wEnv) {x1 : Int32} {M : Mem} {q : (Int32 × Mem)} (h : f_X10_show x1 M = some q) : Mt E yX10_show cX10_show 2 (some .int) 2 [.ref (ad E 0 0), .int x1] M (some (.int q.1)) q.2 := by
  unfold f_X10_show at h
  refine mt_intro (own := RX10) (lv0 := [(0, .ref (ad E 0 0)), (1, .int x1)]) (by decide) rfl rfl rfl (fun Y C R => ?_)
  refine g_aload_n C dX10_show_0 rfl rfl ?_
  refine g_iconst (v := (1 : Int32)) C dX10_show_1 (by decide) ?_
  refine g_iload_n C dX10_show_2 rfl rfl ?_
  obtain ⟨r1, hr1, h⟩ := Option.bind_eq_some_iff.mp h
  refine call_X10_237 C dX10_show_3 (by decide) (c_X10_isNo E hr1) (by decide) rfl ?_
  refine g_if_eq (tgt := 15) C dX10_show_6 (by decide) h (fun h => ?_) (fun h => ?_)
  · refine g_aload_n C dX10_show_15 rfl rfl ?_
    refine get_X10_19 C dX10_show_16 (by decide) ?_
    refine get_X10_182 C dX10_show_19 (by decide) ?_
    refine g_iload_n C dX10_show_22 rfl rfl ?_
    obtain ⟨r2, hr2, h⟩ := Option.bind_eq_some_iff.mp h
    refine call_X10_275 C dX10_show_23 (by decide) (c_X3_wasShown E (by decide) hr2) (by decide) rfl ?_
    refine g_if_eq (tgt := 36) C dX10_show_26 (by decide) h (fun h => ?_) (fun h => ?_)
    · refine g_aload_n C dX10_show_36 rfl rfl ?_
      refine g_aload_n C dX10_show_37 rfl rfl ?_
      refine get_X10_19 C dX10_show_38 (by decide) ?_
      refine get_X10_182 C dX10_show_41 (by decide) ?_
      refine g_aload_n C dX10_show_44 rfl rfl ?_
      refine get_X10_19 C dX10_show_45 (by decide) ?_
      refine get_X10_175 C dX10_show_48 (by decide) ?_
      refine g_iload_n C dX10_show_51 rfl rfl ?_
      obtain ⟨q3, hr3, h⟩ := Option.bind_eq_some_iff.mp h
      refine call_X10_278 C dX10_show_52 (by decide) (c_X3_present E (by decide) (by decide) hr3) (by decide) rfl ?_
      obtain ⟨q4, hr4, h⟩ := Option.bind_eq_some_iff.mp h
      refine call_X10_197 C dX10_show_55 (by decide) (c_X10_answer E hr4) (by decide) rfl ?_
      exact g_iret C R dX10_show_58 (fst_of h) (snd_of h)
    · refine g_aload_n C dX10_show_29 rfl rfl ?_
      refine g_bipush (v := (9 : Int32)) C dX10_show_30 (by decide) ?_
      obtain ⟨q5, hr5, h⟩ := Option.bind_eq_some_iff.mp h
      refine call_X10_133 C dX10_show_32 (by decide) (c_X10_none E hr5) (by decide) rfl ?_
      exact g_iret C R dX10_show_35 (fst_of h) (snd_of h)
  · refine g_aload_n C dX10_show_9 rfl rfl ?_
    refine g_iconst (v := (2 : Int32)) C dX10_show_10 (by decide) ?_
    obtain ⟨q6, hr6, h⟩ := Option.bind_eq_some_iff.mp h
    refine call_X10_133 C dX10_show_11 (by decide) (c_X10_none E hr6) (by decide) rfl ?_
    exact g_iret C R dX10_show_14 (fst_of h) (snd_of h)
noncomputable def f_X10_talk (x1 : Int32) (M : Mem) : Option (Int32 × Mem) :=
  if x1 < (1 : Int32) then
    (f_X10_none (5 : Int32) M).bind fun q1 =>
    some (q1.1, q1.2)
  else
    if (99 : Int32) < x1 then
      (f_X10_none (5 : Int32) M).bind fun q6 =>
      some (q6.1, q6.2)
    else
      if (9999 : Int32) < ((M.1 20 0 4) + x1) then
        (f_X10_none (7 : Int32) M).bind fun q5 =>
        some (q5.1, q5.2)
      else
        (f_X3_talkOn 0 0 x1 M).bind fun M2 =>
        (f_X3_ruling 0 (M2.1 8 0 12) M2).bind fun r3 =>
        (f_X10_answer r3 M2).bind fun q4 =>
        some (q4.1, q4.2)
set_option maxRecDepth 20000 in
set_option maxHeartbeats 2000000 in
theorem c_X10_talk (E : wEnv) {x1 : Int32} {M : Mem} {q : (Int32 × Mem)} (h : f_X10_talk x1 M = some q) : Mt E yX10_talk cX10_talk 2 (some .int) 5 [.ref (ad E 0 0), .int x1] M (some (.int q.1)) q.2 := by
  unfold f_X10_talk at h
  refine mt_intro (own := RX10) (lv0 := [(0, .ref (ad E 0 0)), (1, .int x1)]) (by decide) rfl rfl rfl (fun Y C R => ?_)
  refine g_iload_n C dX10_talk_0 rfl rfl ?_
  refine g_iconst (v := (1 : Int32)) C dX10_talk_1 (by decide) ?_
  refine g_icmp_lt (tgt := 11) C dX10_talk_2 (by decide) h (fun h => ?_) (fun h => ?_)
  · refine g_aload_n C dX10_talk_11 rfl rfl ?_
    refine g_iconst (v := (5 : Int32)) C dX10_talk_12 (by decide) ?_
    obtain ⟨q1, hr1, h⟩ := Option.bind_eq_some_iff.mp h
    refine call_X10_133 C dX10_talk_13 (by decide) (c_X10_none E hr1) (by decide) rfl ?_
    exact g_iret C R dX10_talk_16 (fst_of h) (snd_of h)
  · refine g_iload_n C dX10_talk_5 rfl rfl ?_
    refine g_bipush (v := (99 : Int32)) C dX10_talk_6 (by decide) ?_
    refine g_icmp_le (tgt := 17) C dX10_talk_8 (by decide) h (fun h => ?_) (fun h => ?_)
    · refine g_aload_n C dX10_talk_17 rfl rfl ?_
      refine get_X10_19 C dX10_talk_18 (by decide) ?_
      refine get_X10_182 C dX10_talk_21 (by decide) ?_
      refine get_X10_219 C dX10_talk_24 (by decide) ?_
      refine g_iload_n C dX10_talk_27 rfl rfl ?_
      refine g_iadd C dX10_talk_28 ?_
      refine g_sipush (v := (9999 : Int32)) C dX10_talk_29 (by decide) ?_
      refine g_icmp_le (tgt := 42) C dX10_talk_32 (by decide) h (fun h => ?_) (fun h => ?_)
      · refine g_aload_n C dX10_talk_42 rfl rfl ?_
        refine get_X10_19 C dX10_talk_43 (by decide) ?_
        refine get_X10_182 C dX10_talk_46 (by decide) ?_
        refine g_aload_n C dX10_talk_49 rfl rfl ?_
        refine get_X10_19 C dX10_talk_50 (by decide) ?_
        refine get_X10_175 C dX10_talk_53 (by decide) ?_
        refine g_iload_n C dX10_talk_56 rfl rfl ?_
        obtain ⟨M2, hr2, h⟩ := Option.bind_eq_some_iff.mp h
        refine call_X10_282 C dX10_talk_57 (by decide) (c_X3_talkOn E (by decide) (by decide) hr2) (by decide) rfl ?_
        refine g_aload_n C dX10_talk_60 rfl rfl ?_
        refine g_aload_n C dX10_talk_61 rfl rfl ?_
        refine get_X10_19 C dX10_talk_62 (by decide) ?_
        refine get_X10_182 C dX10_talk_65 (by decide) ?_
        refine g_aload_n C dX10_talk_68 rfl rfl ?_
        refine get_X10_19 C dX10_talk_69 (by decide) ?_
        refine get_X10_175 C dX10_talk_72 (by decide) ?_
        refine get_X10_213 C dX10_talk_75 (by decide) ?_
        obtain ⟨r3, hr3, h⟩ := Option.bind_eq_some_iff.mp h
        refine call_X10_286 C dX10_talk_78 (by decide) (c_X3_ruling E (by decide) hr3) (by decide) rfl ?_
        obtain ⟨q4, hr4, h⟩ := Option.bind_eq_some_iff.mp h
        refine call_X10_197 C dX10_talk_81 (by decide) (c_X10_answer E hr4) (by decide) rfl ?_
        exact g_iret C R dX10_talk_84 (fst_of h) (snd_of h)
      · refine g_aload_n C dX10_talk_35 rfl rfl ?_
        refine g_bipush (v := (7 : Int32)) C dX10_talk_36 (by decide) ?_
        obtain ⟨q5, hr5, h⟩ := Option.bind_eq_some_iff.mp h
        refine call_X10_133 C dX10_talk_38 (by decide) (c_X10_none E hr5) (by decide) rfl ?_
        exact g_iret C R dX10_talk_41 (fst_of h) (snd_of h)
    · refine g_aload_n C dX10_talk_11 rfl rfl ?_
      refine g_iconst (v := (5 : Int32)) C dX10_talk_12 (by decide) ?_
      obtain ⟨q6, hr6, h⟩ := Option.bind_eq_some_iff.mp h
      refine call_X10_133 C dX10_talk_13 (by decide) (c_X10_none E hr6) (by decide) rfl ?_
      exact g_iret C R dX10_talk_16 (fst_of h) (snd_of h)
