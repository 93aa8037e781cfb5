noncomputable def f_X5_advance_124 (M : Mem) : Option Mem :=
  if inb (M.1 30 0 5) 900 = true then
   if (M.1 31 0 ((M.1 30 0 5).toNatClampNeg)) < (48 : Int32) then
     (f_X5_lookAtSign M).bind fun M6 =>
     some M6
   else
     if inb (M.1 30 0 5) 900 = true then
      if (57 : Int32) < (M.1 31 0 ((M.1 30 0 5).toNatClampNeg)) then
        (f_X5_lookAtSign M).bind fun M8 =>
        some M8
      else
        (f_X5_lookAtNumber M).bind fun M9 =>
        some M9
     else none
  else none
noncomputable def f_X5_advance_52 (M : Mem) : Option Mem :=
  let M1 := sR M 30 0 (upd (M.1 30 0) 5 (M.1 30 0 4))
  let M2 := sR M1 30 0 (upd (M1.1 30 0) 7 (-1 : Int32))
  let M3 := sL M2 30 0 (vp_updL (M2.2 30 0) 8 (0 : Int64))
  if (M3.1 30 0 5) < (M3.1 30 0 3) then
    if inb (M3.1 30 0 5) 900 = true then
     if (M3.1 31 0 ((M3.1 30 0 5).toNatClampNeg)) < (97 : Int32) then
       f_X5_advance_124 M3
     else
       if inb (M3.1 30 0 5) 900 = true then
        if (122 : Int32) < (M3.1 31 0 ((M3.1 30 0 5).toNatClampNeg)) then
          f_X5_advance_124 M3
        else
          (f_X5_lookAtWord M3).bind fun M11 =>
          some M11
       else none
    else none
  else
    let M12 := sR M3 30 0 (upd (M3.1 30 0) 6 (0 : Int32))
    some M12
noncomputable def f_X5_advance_0 : Nat → Mem → Option Mem
  | 0, _ => none
  | n + 1, M =>
  if (M.1 30 0 4) < (M.1 30 0 3) then
    if inb (M.1 30 0 4) 900 = true then
     if (M.1 31 0 ((M.1 30 0 4).toNatClampNeg)) = (32 : Int32) then
       let M14 := sR M 30 0 (upd (M.1 30 0) 4 ((M.1 30 0 4) + (1 : Int32)))
       f_X5_advance_0 n M14
     else
       if inb (M.1 30 0 4) 900 = true then
        if (M.1 31 0 ((M.1 30 0 4).toNatClampNeg)) = (10 : Int32) then
          let M16 := sR M 30 0 (upd (M.1 30 0) 4 ((M.1 30 0 4) + (1 : Int32)))
          f_X5_advance_0 n M16
        else
          f_X5_advance_52 M
       else none
    else none
  else
    f_X5_advance_52 M
noncomputable def f_X5_advance (M : Mem) : Option Mem :=
  f_X5_advance_0 FU M
set_option maxRecDepth 20000 in
set_option maxHeartbeats 2000000 in
theorem b_X5_advance_124 {E : wEnv} {Y : YT} (C : Cx E Y cX5_advance 1 RX5 1) {q : Mem} (R : Rx E Y none none q) {M : Mem} (h : f_X5_advance_124 M = some q) : G E Y 1 M 124 [(0, .ref (ad E 30 0))] [] := by
  unfold f_X5_advance_124 at h
  refine g_aload_n C dX5_advance_124 rfl rfl ?_
  refine get_X5_9 C dX5_advance_125 (by decide) ?_
  refine g_aload_n C dX5_advance_128 rfl rfl ?_
  refine get_X5_29 C dX5_advance_129 (by decide) ?_
  obtain ⟨hb5, h⟩ := of_ite h
  refine ld_31 (j := _) C dX5_advance_132 (by decide) hb5 rfl ?_
  refine g_bipush (v := (48 : Int32)) C dX5_advance_133 (by decide) ?_
  refine g_icmp_lt (tgt := 159) C dX5_advance_135 (by decide) h (fun h => ?_) (fun h => ?_)
  · refine g_aload_n C dX5_advance_159 rfl rfl ?_
    obtain ⟨M6, hr6, h⟩ := Option.bind_eq_some_iff.mp h
    refine call_X5_73 C dX5_advance_160 (by decide) (c_X5_lookAtSign E hr6) (by decide) rfl ?_
    exact g_vret C R dX5_advance_163 (Option.some.inj h)
  · refine g_aload_n C dX5_advance_138 rfl rfl ?_
    refine get_X5_9 C dX5_advance_139 (by decide) ?_
    refine g_aload_n C dX5_advance_142 rfl rfl ?_
    refine get_X5_29 C dX5_advance_143 (by decide) ?_
    obtain ⟨hb7, h⟩ := of_ite h
    refine ld_31 (j := _) C dX5_advance_146 (by decide) hb7 rfl ?_
    refine g_bipush (v := (57 : Int32)) C dX5_advance_147 (by decide) ?_
    refine g_icmp_gt (tgt := 159) C dX5_advance_149 (by decide) h (fun h => ?_) (fun h => ?_)
    · refine g_aload_n C dX5_advance_159 rfl rfl ?_
      obtain ⟨M8, hr8, h⟩ := Option.bind_eq_some_iff.mp h
      refine call_X5_73 C dX5_advance_160 (by decide) (c_X5_lookAtSign E hr8) (by decide) rfl ?_
      exact g_vret C R dX5_advance_163 (Option.some.inj h)
    · refine g_aload_n C dX5_advance_152 rfl rfl ?_
      obtain ⟨M9, hr9, h⟩ := Option.bind_eq_some_iff.mp h
      refine call_X5_70 C dX5_advance_153 (by decide) (c_X5_lookAtNumber E hr9) (by decide) rfl ?_
      refine g_goto (tgt := 163) C dX5_advance_156 (by decide) ?_
      exact g_vret C R dX5_advance_163 (Option.some.inj h)
set_option maxRecDepth 20000 in
set_option maxHeartbeats 2000000 in
theorem b_X5_advance_52 {E : wEnv} {Y : YT} (C : Cx E Y cX5_advance 1 RX5 1) {q : Mem} (R : Rx E Y none none q) {M : Mem} (h : f_X5_advance_52 M = some q) : G E Y 1 M 52 [(0, .ref (ad E 30 0))] [] := by
  unfold f_X5_advance_52 at h
  refine g_aload_n C dX5_advance_52 rfl rfl ?_
  refine g_aload_n C dX5_advance_53 rfl rfl ?_
  refine get_X5_26 C dX5_advance_54 (by decide) ?_
  refine put_X5_29 C dX5_advance_57 (by decide) ?_
  refine g_aload_n C dX5_advance_60 rfl rfl ?_
  refine g_iconst (v := (-1 : Int32)) C dX5_advance_61 (by decide) ?_
  refine put_X5_35 C dX5_advance_62 (by decide) ?_
  refine g_aload_n C dX5_advance_65 rfl rfl ?_
  refine g_lconst (v := (0 : Int64)) C dX5_advance_66 (by decide) ?_
  refine put_X5_38 C dX5_advance_67 (by decide) ?_
  refine g_aload_n C dX5_advance_70 rfl rfl ?_
  refine get_X5_29 C dX5_advance_71 (by decide) ?_
  refine g_aload_n C dX5_advance_74 rfl rfl ?_
  refine get_X5_23 C dX5_advance_75 (by decide) ?_
  refine g_icmp_lt (tgt := 89) C dX5_advance_78 (by decide) h (fun h => ?_) (fun h => ?_)
  · refine g_aload_n C dX5_advance_89 rfl rfl ?_
    refine get_X5_9 C dX5_advance_90 (by decide) ?_
    refine g_aload_n C dX5_advance_93 rfl rfl ?_
    refine get_X5_29 C dX5_advance_94 (by decide) ?_
    obtain ⟨hb4, h⟩ := of_ite h
    refine ld_31 (j := _) C dX5_advance_97 (by decide) hb4 rfl ?_
    refine g_bipush (v := (97 : Int32)) C dX5_advance_98 (by decide) ?_
    refine g_icmp_lt (tgt := 124) C dX5_advance_100 (by decide) h (fun h => ?_) (fun h => ?_)
    · exact g_sub (b_X5_advance_124 C R h) ⟨rfl, trivial⟩
    · refine g_aload_n C dX5_advance_103 rfl rfl ?_
      refine get_X5_9 C dX5_advance_104 (by decide) ?_
      refine g_aload_n C dX5_advance_107 rfl rfl ?_
      refine get_X5_29 C dX5_advance_108 (by decide) ?_
      obtain ⟨hb10, h⟩ := of_ite h
      refine ld_31 (j := _) C dX5_advance_111 (by decide) hb10 rfl ?_
      refine g_bipush (v := (122 : Int32)) C dX5_advance_112 (by decide) ?_
      refine g_icmp_gt (tgt := 124) C dX5_advance_114 (by decide) h (fun h => ?_) (fun h => ?_)
      · exact g_sub (b_X5_advance_124 C R h) ⟨rfl, trivial⟩
      · refine g_aload_n C dX5_advance_117 rfl rfl ?_
        obtain ⟨M11, hr11, h⟩ := Option.bind_eq_some_iff.mp h
        refine call_X5_67 C dX5_advance_118 (by decide) (c_X5_lookAtWord E hr11) (by decide) rfl ?_
        refine g_goto (tgt := 163) C dX5_advance_121 (by decide) ?_
        exact g_vret C R dX5_advance_163 (Option.some.inj h)
  · refine g_aload_n C dX5_advance_81 rfl rfl ?_
    refine g_iconst (v := (0 : Int32)) C dX5_advance_82 (by decide) ?_
    refine put_X5_32 C dX5_advance_83 (by decide) ?_
    refine g_goto (tgt := 163) C dX5_advance_86 (by decide) ?_
    exact g_vret C R dX5_advance_163 (Option.some.inj h)
set_option maxRecDepth 20000 in
set_option maxHeartbeats 2000000 in
theorem b_X5_advance_0 {E : wEnv} {Y : YT} (C : Cx E Y cX5_advance 1 RX5 1) {q : Mem} (R : Rx E Y none none q) (n : Nat) : ∀ {M : Mem} (_ : f_X5_advance_0 n M = some q), G E Y 1 M 0 [(0, .ref (ad E 30 0))] [] := by
  induction n with
  | zero =>
    intro M h
    cases (show none = some q from h)
  | succ n ih =>
    intro M h
    rw [f_X5_advance_0] at h
    refine g_aload_n C dX5_advance_0 rfl rfl ?_
    refine get_X5_26 C dX5_advance_1 (by decide) ?_
    refine g_aload_n C dX5_advance_4 rfl rfl ?_
    refine get_X5_23 C dX5_advance_5 (by decide) ?_
    refine g_icmp_ge (tgt := 52) C dX5_advance_8 (by decide) h (fun h => ?_) (fun h => ?_)
    · exact g_sub (b_X5_advance_52 C R h) ⟨rfl, trivial⟩
    · refine g_aload_n C dX5_advance_11 rfl rfl ?_
      refine get_X5_9 C dX5_advance_12 (by decide) ?_
      refine g_aload_n C dX5_advance_15 rfl rfl ?_
      refine get_X5_26 C dX5_advance_16 (by decide) ?_
      obtain ⟨hb13, h⟩ := of_ite h
      refine ld_31 (j := _) C dX5_advance_19 (by decide) hb13 rfl ?_
      refine g_bipush (v := (32 : Int32)) C dX5_advance_20 (by decide) ?_
      refine g_icmp_eq (tgt := 39) C dX5_advance_22 (by decide) h (fun h => ?_) (fun h => ?_)
      · refine g_aload_n C dX5_advance_39 rfl rfl ?_
        refine g_dup C dX5_advance_40 rfl ?_
        refine get_X5_26 C dX5_advance_41 (by decide) ?_
        refine g_iconst (v := (1 : Int32)) C dX5_advance_44 (by decide) ?_
        refine g_iadd C dX5_advance_45 ?_
        refine put_X5_26 C dX5_advance_46 (by decide) ?_
        refine g_goto (tgt := 0) C dX5_advance_49 (by decide) ?_
        exact g_sub (ih h) ⟨rfl, trivial⟩
      · refine g_aload_n C dX5_advance_25 rfl rfl ?_
        refine get_X5_9 C dX5_advance_26 (by decide) ?_
        refine g_aload_n C dX5_advance_29 rfl rfl ?_
        refine get_X5_26 C dX5_advance_30 (by decide) ?_
        obtain ⟨hb15, h⟩ := of_ite h
        refine ld_31 (j := _) C dX5_advance_33 (by decide) hb15 rfl ?_
        refine g_bipush (v := (10 : Int32)) C dX5_advance_34 (by decide) ?_
        refine g_icmp_ne (tgt := 52) C dX5_advance_36 (by decide) h (fun h => ?_) (fun h => ?_)
        · exact g_sub (b_X5_advance_52 C R h) ⟨rfl, trivial⟩
        · refine g_aload_n C dX5_advance_39 rfl rfl ?_
          refine g_dup C dX5_advance_40 rfl ?_
          refine get_X5_26 C dX5_advance_41 (by decide) ?_
          refine g_iconst (v := (1 : Int32)) C dX5_advance_44 (by decide) ?_
          refine g_iadd C dX5_advance_45 ?_
          refine put_X5_26 C dX5_advance_46 (by decide) ?_
          refine g_goto (tgt := 0) C dX5_advance_49 (by decide) ?_
          exact g_sub (ih h) ⟨rfl, trivial⟩
set_option maxRecDepth 20000 in
set_option maxHeartbeats 2000000 in
theorem c_X5_advance (E : wEnv) {M : Mem} {q : Mem} (h : f_X5_advance M = some q) : Mt E yX5_advance cX5_advance 1 none 1 [.ref (ad E 30 0)] M none q := by
  unfold f_X5_advance at h
  refine mt_intro (own := RX5) (lv0 := [(0, .ref (ad E 30 0))]) (by decide) rfl rfl rfl (fun Y C R => ?_)
  exact g_sub (b_X5_advance_0 C R _ h) ⟨rfl, trivial⟩
noncomputable def f_X5_begin (x1 : Int32) (M : Mem) : Option Mem :=
  let M1 := sR M 30 0 (upd (M.1 30 0) 3 x1)
  let M2 := sR M1 30 0 (upd (M1.1 30 0) 4 (0 : Int32))
  let M3 := sR M2 30 0 (upd (M2.1 30 0) 10 (0 : Int32))
  let M4 := sR M3 30 0 (upd (M3.1 30 0) 11 (-1 : Int32))
  (f_X5_advance M4).bind fun M5 =>
  some M5
set_option maxRecDepth 20000 in
set_option maxHeartbeats 2000000 in
theorem c_X5_begin (E : wEnv) {x1 : Int32} {M : Mem} {q : Mem} (h : f_X5_begin x1 M = some q) : Mt E yX5_begin cX5_begin 2 none 2 [.ref (ad E 30 0), .int x1] M none q := by
  unfold f_X5_begin at h
  refine mt_intro (own := RX5) (lv0 := [(0, .ref (ad E 30 0)), (1, .int x1)]) (by decide) rfl rfl rfl (fun Y C R => ?_)
  refine g_aload_n C dX5_begin_0 rfl rfl ?_
  refine g_iload_n C dX5_begin_1 rfl rfl ?_
  refine put_X5_23 C dX5_begin_2 (by decide) ?_
  refine g_aload_n C dX5_begin_5 rfl rfl ?_
  refine g_iconst (v := (0 : Int32)) C dX5_begin_6 (by decide) ?_
  refine put_X5_26 C dX5_begin_7 (by decide) ?_
  refine g_aload_n C dX5_begin_10 rfl rfl ?_
  refine g_iconst (v := (0 : Int32)) C dX5_begin_11 (by decide) ?_
  refine put_X5_45 C dX5_begin_12 (by decide) ?_
  refine g_aload_n C dX5_begin_15 rfl rfl ?_
  refine g_iconst (v := (-1 : Int32)) C dX5_begin_16 (by decide) ?_
  refine put_X5_48 C dX5_begin_17 (by decide) ?_
  refine g_aload_n C dX5_begin_20 rfl rfl ?_
  obtain ⟨M5, hr5, h⟩ := Option.bind_eq_some_iff.mp h
  refine call_X5_64 C dX5_begin_21 (by decide) (c_X5_advance E hr5) (by decide) rfl ?_
  exact g_vret C R dX5_begin_24 (Option.some.inj h)
noncomputable def f_X5_word (M : Mem) : Option Int32 :=
  if (M.1 30 0 6) = (1 : Int32) then
    some (M.1 30 0 7)
  else
    some (-1 : Int32)
set_option maxRecDepth 20000 in
set_option maxHeartbeats 2000000 in
theorem c_X5_word (E : wEnv) {M : Mem} {q : Int32} (h : f_X5_word M = some q) : Mt E yX5_word cX5_word 1 (some .int) 0 [.ref (ad E 30 0)] M (some (.int q)) M := by
  unfold f_X5_word at h
  refine mt_intro (own := RX5) (lv0 := [(0, .ref (ad E 30 0))]) (by decide) rfl rfl rfl (fun Y C R => ?_)
  refine g_aload_n C dX5_word_0 rfl rfl ?_
  refine get_X5_32 C dX5_word_1 (by decide) ?_
  refine g_iconst (v := (1 : Int32)) C dX5_word_4 (by decide) ?_
  refine g_icmp_ne (tgt := 15) C dX5_word_5 (by decide) h (fun h => ?_) (fun h => ?_)
  · refine g_iconst (v := (-1 : Int32)) C dX5_word_15 (by decide) ?_
    exact g_iret C R dX5_word_16 (Option.some.inj h) rfl
  · refine g_aload_n C dX5_word_8 rfl rfl ?_
    refine get_X5_35 C dX5_word_9 (by decide) ?_
    refine g_goto (tgt := 16) C dX5_word_12 (by decide) ?_
    exact g_iret C R dX5_word_16 (Option.some.inj h) rfl
noncomputable def f_X5_fail (x1 : Int32) (M : Mem) : Option (Int32 × Mem) :=
  if (M.1 30 0 10) = 0 then
    if (M.1 30 0 6) = (4 : Int32) then
      let M3 := sR M 30 0 (upd (M.1 30 0) 10 (1 : Int32))
      let M4 := sR M3 30 0 (upd (M3.1 30 0) 11 (M3.1 30 0 5))
      some ((0 : Int32), M4)
    else
      let M1 := sR M 30 0 (upd (M.1 30 0) 10 x1)
      let M2 := sR M1 30 0 (upd (M1.1 30 0) 11 (M1.1 30 0 5))
      some ((0 : Int32), M2)
  else
    some ((0 : Int32), M)
set_option maxRecDepth 20000 in
set_option maxHeartbeats 2000000 in
theorem c_X5_fail (E : wEnv) {x1 : Int32} {M : Mem} {q : (Int32 × Mem)} (h : f_X5_fail x1 M = some q) : Mt E yX5_fail cX5_fail 2 (some .boolean) 0 [.ref (ad E 30 0), .int x1] M (some (.int q.1)) q.2 := by
  unfold f_X5_fail at h
  refine mt_intro (own := RX5) (lv0 := [(0, .ref (ad E 30 0)), (1, .int x1)]) (by decide) rfl rfl rfl (fun Y C R => ?_)
  refine g_aload_n C dX5_fail_0 rfl rfl ?_
  refine get_X5_45 C dX5_fail_1 (by decide) ?_
  refine g_if_ne (tgt := 32) C dX5_fail_4 (by decide) h (fun h => ?_) (fun h => ?_)
  · refine g_iconst (v := (0 : Int32)) C dX5_fail_32 (by decide) ?_
    exact g_zret C R dX5_fail_33 (fst_of h) (Or.inl rfl) (snd_of h)
  · refine g_aload_n C dX5_fail_7 rfl rfl ?_
    refine g_aload_n C dX5_fail_8 rfl rfl ?_
    refine get_X5_32 C dX5_fail_9 (by decide) ?_
    refine g_iconst (v := (4 : Int32)) C dX5_fail_12 (by decide) ?_
    refine g_icmp_ne (tgt := 20) C dX5_fail_13 (by decide) h (fun h => ?_) (fun h => ?_)
    · refine g_iload_n C dX5_fail_20 rfl rfl ?_
      refine put_X5_45 C dX5_fail_21 (by decide) ?_
      refine g_aload_n C dX5_fail_24 rfl rfl ?_
      refine g_aload_n C dX5_fail_25 rfl rfl ?_
      refine get_X5_29 C dX5_fail_26 (by decide) ?_
      refine put_X5_48 C dX5_fail_29 (by decide) ?_
      refine g_iconst (v := (0 : Int32)) C dX5_fail_32 (by decide) ?_
      exact g_zret C R dX5_fail_33 (fst_of h) (Or.inl rfl) (snd_of h)
    · refine g_iconst (v := (1 : Int32)) C dX5_fail_16 (by decide) ?_
      refine g_goto (tgt := 21) C dX5_fail_17 (by decide) ?_
      refine put_X5_45 C dX5_fail_21 (by decide) ?_
      refine g_aload_n C dX5_fail_24 rfl rfl ?_
      refine g_aload_n C dX5_fail_25 rfl rfl ?_
      refine get_X5_29 C dX5_fail_26 (by decide) ?_
      refine put_X5_48 C dX5_fail_29 (by decide) ?_
      refine g_iconst (v := (0 : Int32)) C dX5_fail_32 (by decide) ?_
      exact g_zret C R dX5_fail_33 (fst_of h) (Or.inl rfl) (snd_of h)
noncomputable def f_X5_isName (M : Mem) : Option Int32 :=
  if (M.1 30 0 6) = (1 : Int32) then
    if (M.1 30 0 7) = (-1 : Int32) then
      if (lg_cmp (M.2 30 0 8) (0 : Int64)) = 0 then
        some (0 : Int32)
      else
        some (1 : Int32)
    else
      some (0 : Int32)
  else
    some (0 : Int32)
set_option maxRecDepth 20000 in
set_option maxHeartbeats 2000000 in
theorem c_X5_isName (E : wEnv) {M : Mem} {q : Int32} (h : f_X5_isName M = some q) : Mt E yX5_isName cX5_isName 1 (some .boolean) 0 [.ref (ad E 30 0)] M (some (.int q)) M := by
  unfold f_X5_isName at h
  refine mt_intro (own := RX5) (lv0 := [(0, .ref (ad E 30 0))]) (by decide) rfl rfl rfl (fun Y C R => ?_)
  refine g_aload_n C dX5_isName_0 rfl rfl ?_
  refine get_X5_32 C dX5_isName_1 (by decide) ?_
  refine g_iconst (v := (1 : Int32)) C dX5_isName_4 (by decide) ?_
  refine g_icmp_ne (tgt := 29) C dX5_isName_5 (by decide) h (fun h => ?_) (fun h => ?_)
  · refine g_iconst (v := (0 : Int32)) C dX5_isName_29 (by decide) ?_
    exact g_zret C R dX5_isName_30 (Option.some.inj h) (Or.inl rfl) rfl
  · refine g_aload_n C dX5_isName_8 rfl rfl ?_
    refine get_X5_35 C dX5_isName_9 (by decide) ?_
    refine g_iconst (v := (-1 : Int32)) C dX5_isName_12 (by decide) ?_
    refine g_icmp_ne (tgt := 29) C dX5_isName_13 (by decide) h (fun h => ?_) (fun h => ?_)
    · refine g_iconst (v := (0 : Int32)) C dX5_isName_29 (by decide) ?_
      exact g_zret C R dX5_isName_30 (Option.some.inj h) (Or.inl rfl) rfl
    · refine g_aload_n C dX5_isName_16 rfl rfl ?_
      refine get_X5_38 C dX5_isName_17 (by decide) ?_
      refine g_lconst (v := (0 : Int64)) C dX5_isName_20 (by decide) ?_
      refine g_lcmp C dX5_isName_21 ?_
      refine g_if_eq (tgt := 29) C dX5_isName_22 (by decide) h (fun h => ?_) (fun h => ?_)
      · refine g_iconst (v := (0 : Int32)) C dX5_isName_29 (by decide) ?_
        exact g_zret C R dX5_isName_30 (Option.some.inj h) (Or.inl rfl) rfl
      · refine g_iconst (v := (1 : Int32)) C dX5_isName_25 (by decide) ?_
        refine g_goto (tgt := 30) C dX5_isName_26 (by decide) ?_
        exact g_zret C R dX5_isName_30 (Option.some.inj h) (Or.inr rfl) rfl
noncomputable def f_X2_needNew (i2 : Nat) (x3 : Int32) (M : Mem) : Option (Int32 × Mem) :=
  (f_X1_isFull i2 x3 M).bind fun r1 =>
  if r1 = 0 then
    (f_X5_advance M).bind fun M2 =>
    (f_X5_isName M2).bind fun r3 =>
    if r3 = 0 then
      (f_X5_fail (2 : Int32) M2).bind fun q10 =>
      if isB q10.1 = true then some (q10.1, q10.2) else none
    else
      (f_X1_isTaken i2 (M2.2 30 0 8) M2).bind fun r4 =>
      if r4 = 0 then
        (f_X1_addThing i2 x3 (M2.2 30 0 8) M2).bind fun q5 =>
        let M6 := sR q5.2 30 0 (upd (q5.2.1 30 0) 9 q5.1)
        (f_X5_advance M6).bind fun M7 =>
        some ((1 : Int32), M7)
      else
        (f_X5_fail (3 : Int32) M2).bind fun q8 =>
        if isB q8.1 = true then some (q8.1, q8.2) else none
  else
    (f_X5_fail (6 : Int32) M).bind fun q12 =>
    if isB q12.1 = true then some (q12.1, q12.2) else none
set_option maxRecDepth 20000 in
set_option maxHeartbeats 2000000 in
theorem c_X2_needNew (E : wEnv) {i2 : Nat} {x3 : Int32} {M : Mem} {q : (Int32 × Mem)} (hi2 : i2 < cnt 8) (h : f_X2_needNew i2 x3 M = some q) : Mt E yX2_needNew cX2_needNew 4 (some .boolean) 2 [.ref (ad E 33 0), .ref (ad E 30 0), .ref (ad E 8 i2), .int x3] M (some (.int q.1)) q.2 := by
  unfold f_X2_needNew at h
  refine mt_intro (own := RX2) (lv0 := [(0, .ref (ad E 33 0)), (1, .ref (ad E 30 0)), (2, .ref (ad E 8 i2)), (3, .int x3)]) (by decide) rfl rfl rfl (fun Y C R => ?_)
  refine g_aload_n C dX2_needNew_0 rfl rfl ?_
  refine g_iload_n C dX2_needNew_1 rfl rfl ?_
  obtain ⟨r1, hr1, h⟩ := Option.bind_eq_some_iff.mp h
  refine call_X2_78 C dX2_needNew_2 hi2 (c_X1_isFull E hi2 hr1) (by decide) rfl ?_
  refine g_if_eq (tgt := 15) C dX2_needNew_5 (by decide) h (fun h => ?_) (fun h => ?_)
  · refine g_aload_n C dX2_needNew_15 rfl rfl ?_
    obtain ⟨M2, hr2, h⟩ := Option.bind_eq_some_iff.mp h
    refine call_X2_81 C dX2_needNew_16 (by decide) (c_X5_advance E hr2) (by decide) rfl ?_
    refine g_aload_n C dX2_needNew_19 rfl rfl ?_
    obtain ⟨r3, hr3, h⟩ := Option.bind_eq_some_iff.mp h
    refine call_X2_84 C dX2_needNew_20 (by decide) (c_X5_isName E hr3) (by decide) rfl ?_
    refine g_if_ne (tgt := 32) C dX2_needNew_23 (by decide) h (fun h => ?_) (fun h => ?_)
    · refine g_aload_n C dX2_needNew_32 rfl rfl ?_
      refine g_aload_n C dX2_needNew_33 rfl rfl ?_
      refine get_X2_87 C dX2_needNew_34 (by decide) ?_
      obtain ⟨r4, hr4, h⟩ := Option.bind_eq_some_iff.mp h
      refine call_X2_91 C dX2_needNew_37 hi2 (c_X1_isTaken E hi2 hr4) (by decide) rfl ?_
      refine g_if_eq (tgt := 49) C dX2_needNew_40 (by decide) h (fun h => ?_) (fun h => ?_)
      · refine g_aload_n C dX2_needNew_49 rfl rfl ?_
        refine g_aload_n C dX2_needNew_50 rfl rfl ?_
        refine g_iload_n C dX2_needNew_51 rfl rfl ?_
        refine g_aload_n C dX2_needNew_52 rfl rfl ?_
        refine get_X2_87 C dX2_needNew_53 (by decide) ?_
        obtain ⟨q5, hr5, h⟩ := Option.bind_eq_some_iff.mp h
        refine call_X2_95 C dX2_needNew_56 hi2 (c_X1_addThing E hi2 hr5) (by decide) rfl ?_
        refine put_X2_99 C dX2_needNew_59 (by decide) ?_
        refine g_aload_n C dX2_needNew_62 rfl rfl ?_
        obtain ⟨M7, hr7, h⟩ := Option.bind_eq_some_iff.mp h
        refine call_X2_81 C dX2_needNew_63 (by decide) (c_X5_advance E hr7) (by decide) rfl ?_
        refine g_iconst (v := (1 : Int32)) C dX2_needNew_66 (by decide) ?_
        exact g_zret C R dX2_needNew_67 (fst_of h) (Or.inr rfl) (snd_of h)
      · refine g_aload_n C dX2_needNew_43 rfl rfl ?_
        refine g_iconst (v := (3 : Int32)) C dX2_needNew_44 (by decide) ?_
        obtain ⟨q8, hr8, h⟩ := Option.bind_eq_some_iff.mp h
        refine call_X2_74 C dX2_needNew_45 (by decide) (c_X5_fail E hr8) (by decide) rfl ?_
        obtain ⟨hz9, h⟩ := of_ite h
        exact g_zret C R dX2_needNew_48 (fst_of h) (isB_of hz9) (snd_of h)
    · refine g_aload_n C dX2_needNew_26 rfl rfl ?_
      refine g_iconst (v := (2 : Int32)) C dX2_needNew_27 (by decide) ?_
      obtain ⟨q10, hr10, h⟩ := Option.bind_eq_some_iff.mp h
      refine call_X2_74 C dX2_needNew_28 (by decide) (c_X5_fail E hr10) (by decide) rfl ?_
      obtain ⟨hz11, h⟩ := of_ite h
      exact g_zret C R dX2_needNew_31 (fst_of h) (isB_of hz11) (snd_of h)
  · refine g_aload_n C dX2_needNew_8 rfl rfl ?_
    refine g_bipush (v := (6 : Int32)) C dX2_needNew_9 (by decide) ?_
    obtain ⟨q12, hr12, h⟩ := Option.bind_eq_some_iff.mp h
    refine call_X2_74 C dX2_needNew_11 (by decide) (c_X5_fail E hr12) (by decide) rfl ?_
    obtain ⟨hz13, h⟩ := of_ite h
    exact g_zret C R dX2_needNew_14 (fst_of h) (isB_of hz13) (snd_of h)
noncomputable def f_X5_takeWord (x1 : Int32) (M : Mem) : Option (Int32 × Mem) :=
  (f_X5_word M).bind fun r1 =>
  if r1 = x1 then
    (f_X5_advance M).bind fun M2 =>
    some ((1 : Int32), M2)
  else
    some ((0 : Int32), M)
set_option maxRecDepth 20000 in
set_option maxHeartbeats 2000000 in
theorem c_X5_takeWord (E : wEnv) {x1 : Int32} {M : Mem} {q : (Int32 × Mem)} (h : f_X5_takeWord x1 M = some q) : Mt E yX5_takeWord cX5_takeWord 2 (some .boolean) 2 [.ref (ad E 30 0), .int x1] M (some (.int q.1)) q.2 := by
  unfold f_X5_takeWord at h
  refine mt_intro (own := RX5) (lv0 := [(0, .ref (ad E 30 0)), (1, .int x1)]) (by decide) rfl rfl rfl (fun Y C R => ?_)
  refine g_aload_n C dX5_takeWord_0 rfl rfl ?_
  obtain ⟨r1, hr1, h⟩ := Option.bind_eq_some_iff.mp h
  refine call_X5_76 C dX5_takeWord_1 (by decide) (c_X5_word E hr1) (by decide) rfl ?_
  refine g_iload_n C dX5_takeWord_4 rfl rfl ?_
  refine g_icmp_eq (tgt := 10) C dX5_takeWord_5 (by decide) h (fun h => ?_) (fun h => ?_)
  · refine g_aload_n C dX5_takeWord_10 rfl rfl ?_
    obtain ⟨M2, hr2, h⟩ := Option.bind_eq_some_iff.mp h
    refine call_X5_64 C dX5_takeWord_11 (by decide) (c_X5_advance E hr2) (by decide) rfl ?_
    refine g_iconst (v := (1 : Int32)) C dX5_takeWord_14 (by decide) ?_
    exact g_zret C R dX5_takeWord_15 (fst_of h) (Or.inr rfl) (snd_of h)
  · refine g_iconst (v := (0 : Int32)) C dX5_takeWord_8 (by decide) ?_
    exact g_zret C R dX5_takeWord_9 (fst_of h) (Or.inl rfl) (snd_of h)
noncomputable def f_X5_needNumber (x1 : Int32) (x2 : Int32) (M : Mem) : Option (Int32 × Mem) :=
  if (M.1 30 0 6) = (2 : Int32) then
    if (M.1 30 0 7) < x1 then
      (f_X5_fail (4 : Int32) M).bind fun q1 =>
      if isB q1.1 = true then some (q1.1, q1.2) else none
    else
      if x2 < (M.1 30 0 7) then
        (f_X5_fail (4 : Int32) M).bind fun q5 =>
        if isB q5.1 = true then some (q5.1, q5.2) else none
      else
        let M3 := sR M 30 0 (upd (M.1 30 0) 9 (M.1 30 0 7))
        (f_X5_advance M3).bind fun M4 =>
        some ((1 : Int32), M4)
  else
    (f_X5_fail (2 : Int32) M).bind fun q7 =>
    if isB q7.1 = true then some (q7.1, q7.2) else none
set_option maxRecDepth 20000 in
set_option maxHeartbeats 2000000 in
theorem c_X5_needNumber (E : wEnv) {x1 : Int32} {x2 : Int32} {M : Mem} {q : (Int32 × Mem)} (h : f_X5_needNumber x1 x2 M = some q) : Mt E yX5_needNumber cX5_needNumber 3 (some .boolean) 2 [.ref (ad E 30 0), .int x1, .int x2] M (some (.int q.1)) q.2 := by
  unfold f_X5_needNumber at h
  refine mt_intro (own := RX5) (lv0 := [(0, .ref (ad E 30 0)), (1, .int x1), (2, .int x2)]) (by decide) rfl rfl rfl (fun Y C R => ?_)
  refine g_aload_n C dX5_needNumber_0 rfl rfl ?_
  refine get_X5_32 C dX5_needNumber_1 (by decide) ?_
  refine g_iconst (v := (2 : Int32)) C dX5_needNumber_4 (by decide) ?_
  refine g_icmp_eq (tgt := 14) C dX5_needNumber_5 (by decide) h (fun h => ?_) (fun h => ?_)
  · refine g_aload_n C dX5_needNumber_14 rfl rfl ?_
    refine get_X5_35 C dX5_needNumber_15 (by decide) ?_
    refine g_iload_n C dX5_needNumber_18 rfl rfl ?_
    refine g_icmp_lt (tgt := 30) C dX5_needNumber_19 (by decide) h (fun h => ?_) (fun h => ?_)
    · refine g_aload_n C dX5_needNumber_30 rfl rfl ?_
      refine g_iconst (v := (4 : Int32)) C dX5_needNumber_31 (by decide) ?_
      obtain ⟨q1, hr1, h⟩ := Option.bind_eq_some_iff.mp h
      refine call_X5_83 C dX5_needNumber_32 (by decide) (c_X5_fail E hr1) (by decide) rfl ?_
      obtain ⟨hz2, h⟩ := of_ite h
      exact g_zret C R dX5_needNumber_35 (fst_of h) (isB_of hz2) (snd_of h)
    · refine g_aload_n C dX5_needNumber_22 rfl rfl ?_
      refine get_X5_35 C dX5_needNumber_23 (by decide) ?_
      refine g_iload_n C dX5_needNumber_26 rfl rfl ?_
      refine g_icmp_le (tgt := 36) C dX5_needNumber_27 (by decide) h (fun h => ?_) (fun h => ?_)
      · refine g_aload_n C dX5_needNumber_36 rfl rfl ?_
        refine g_aload_n C dX5_needNumber_37 rfl rfl ?_
        refine get_X5_35 C dX5_needNumber_38 (by decide) ?_
        refine put_X5_42 C dX5_needNumber_41 (by decide) ?_
        refine g_aload_n C dX5_needNumber_44 rfl rfl ?_
        obtain ⟨M4, hr4, h⟩ := Option.bind_eq_some_iff.mp h
        refine call_X5_64 C dX5_needNumber_45 (by decide) (c_X5_advance E hr4) (by decide) rfl ?_
        refine g_iconst (v := (1 : Int32)) C dX5_needNumber_48 (by decide) ?_
        exact g_zret C R dX5_needNumber_49 (fst_of h) (Or.inr rfl) (snd_of h)
      · refine g_aload_n C dX5_needNumber_30 rfl rfl ?_
        refine g_iconst (v := (4 : Int32)) C dX5_needNumber_31 (by decide) ?_
        obtain ⟨q5, hr5, h⟩ := Option.bind_eq_some_iff.mp h
        refine call_X5_83 C dX5_needNumber_32 (by decide) (c_X5_fail E hr5) (by decide) rfl ?_
        obtain ⟨hz6, h⟩ := of_ite h
        exact g_zret C R dX5_needNumber_35 (fst_of h) (isB_of hz6) (snd_of h)
  · refine g_aload_n C dX5_needNumber_8 rfl rfl ?_
    refine g_iconst (v := (2 : Int32)) C dX5_needNumber_9 (by decide) ?_
    obtain ⟨q7, hr7, h⟩ := Option.bind_eq_some_iff.mp h
    refine call_X5_83 C dX5_needNumber_10 (by decide) (c_X5_fail E hr7) (by decide) rfl ?_
    obtain ⟨hz8, h⟩ := of_ite h
    exact g_zret C R dX5_needNumber_13 (fst_of h) (isB_of hz8) (snd_of h)
noncomputable def f_X5_needEither (x1 : Int32) (M : Mem) : Option (Int32 × Mem) :=
  (f_X5_takeWord (2 : Int32) M).bind fun q1 =>
  (f_X5_needNumber (0 : Int32) x1 q1.2).bind fun q2 =>
  if q2.1 = 0 then
    some ((0 : Int32), q2.2)
  else
    if q1.1 = 0 then
      let M3 := sR q2.2 30 0 (upd (q2.2.1 30 0) 9 (q2.2.1 30 0 9))
      some ((1 : Int32), M3)
    else
      let M4 := sR q2.2 30 0 (upd (q2.2.1 30 0) 9 (-(q2.2.1 30 0 9)))
      some ((1 : Int32), M4)
set_option maxRecDepth 20000 in
set_option maxHeartbeats 2000000 in
theorem c_X5_needEither (E : wEnv) {x1 : Int32} {M : Mem} {q : (Int32 × Mem)} (h : f_X5_needEither x1 M = some q) : Mt E yX5_needEither cX5_needEither 3 (some .boolean) 3 [.ref (ad E 30 0), .int x1] M (some (.int q.1)) q.2 := by
  unfold f_X5_needEither at h
  refine mt_intro (own := RX5) (lv0 := [(0, .ref (ad E 30 0)), (1, .int x1)]) (by decide) rfl rfl rfl (fun Y C R => ?_)
  refine g_aload_n C dX5_needEither_0 rfl rfl ?_
  refine g_iconst (v := (2 : Int32)) C dX5_needEither_1 (by decide) ?_
  obtain ⟨q1, hr1, h⟩ := Option.bind_eq_some_iff.mp h
  refine call_X5_79 C dX5_needEither_2 (by decide) (c_X5_takeWord E hr1) (by decide) rfl ?_
  refine g_istore_n C dX5_needEither_5 rfl rfl ?_
  refine g_aload_n C dX5_needEither_6 rfl rfl ?_
  refine g_iconst (v := (0 : Int32)) C dX5_needEither_7 (by decide) ?_
  refine g_iload_n C dX5_needEither_8 rfl rfl ?_
  obtain ⟨q2, hr2, h⟩ := Option.bind_eq_some_iff.mp h
  refine call_X5_86 C dX5_needEither_9 (by decide) (c_X5_needNumber E hr2) (by decide) rfl ?_
  refine g_if_ne (tgt := 17) C dX5_needEither_12 (by decide) h (fun h => ?_) (fun h => ?_)
  · refine g_aload_n C dX5_needEither_17 rfl rfl ?_
    refine g_iload_n C dX5_needEither_18 rfl rfl ?_
    refine g_if_eq (tgt := 30) C dX5_needEither_19 (by decide) h (fun h => ?_) (fun h => ?_)
    · refine g_aload_n C dX5_needEither_30 rfl rfl ?_
      refine get_X5_42 C dX5_needEither_31 (by decide) ?_
      refine put_X5_42 C dX5_needEither_34 (by decide) ?_
      refine g_iconst (v := (1 : Int32)) C dX5_needEither_37 (by decide) ?_
      exact g_zret C R dX5_needEither_38 (fst_of h) (Or.inr rfl) (snd_of h)
    · refine g_aload_n C dX5_needEither_22 rfl rfl ?_
      refine get_X5_42 C dX5_needEither_23 (by decide) ?_
      refine g_ineg C dX5_needEither_26 ?_
      refine g_goto (tgt := 34) C dX5_needEither_27 (by decide) ?_
      refine put_X5_42 C dX5_needEither_34 (by decide) ?_
      refine g_iconst (v := (1 : Int32)) C dX5_needEither_37 (by decide) ?_
      exact g_zret C R dX5_needEither_38 (fst_of h) (Or.inr rfl) (snd_of h)
  · refine g_iconst (v := (0 : Int32)) C dX5_needEither_15 (by decide) ?_
    exact g_zret C R dX5_needEither_16 (fst_of h) (Or.inl rfl) (snd_of h)
noncomputable def f_X2_readJuror_85 (i2 : Nat) (x3 : Int32) (M : Mem) : Option (Int32 × Mem) :=
  (f_X5_takeWord (4 : Int32) M).bind fun q9 =>
  if q9.1 = 0 then
    some ((1 : Int32), q9.2)
  else
    (f_X5_needNumber (0 : Int32) (99 : Int32) q9.2).bind fun q10 =>
    if q10.1 = 0 then
      some ((0 : Int32), q10.2)
    else
      if inb x3 10 = true then
       let M12 := sR q10.2 13 i2 (upd (q10.2.1 13 i2) x3.toNatClampNeg (q10.2.1 30 0 9))
       some ((1 : Int32), M12)
      else none
noncomputable def f_X2_readJuror_55 (i2 : Nat) (x3 : Int32) (M : Mem) : Option (Int32 × Mem) :=
  (f_X5_takeWord (3 : Int32) M).bind fun q8 =>
  if q8.1 = 0 then
    f_X2_readJuror_85 i2 x3 q8.2
  else
    (f_X5_needNumber (0 : Int32) (20 : Int32) q8.2).bind fun q13 =>
    if q13.1 = 0 then
      some ((0 : Int32), q13.2)
    else
      if inb x3 10 = true then
       let M15 := sR q13.2 12 i2 (upd (q13.2.1 12 i2) x3.toNatClampNeg (q13.2.1 30 0 9))
       f_X2_readJuror_85 i2 x3 M15
      else none
noncomputable def f_X2_readJuror (i2 : Nat) (M : Mem) : Option (Int32 × Mem) :=
  if inb (M.1 30 0 9) 10 = true then
   let M2 := sR M 11 i2 (upd (M.1 11 i2) ((M.1 30 0 9).toNatClampNeg) (0 : Int32))
   if inb (M.1 30 0 9) 10 = true then
    let M4 := sR M2 12 i2 (upd (M2.1 12 i2) ((M.1 30 0 9).toNatClampNeg) (0 : Int32))
    if inb (M.1 30 0 9) 10 = true then
     let M6 := sR M4 13 i2 (upd (M4.1 13 i2) ((M.1 30 0 9).toNatClampNeg) (0 : Int32))
     (f_X5_takeWord (1 : Int32) M6).bind fun q7 =>
     if q7.1 = 0 then
       f_X2_readJuror_55 i2 (M.1 30 0 9) q7.2
     else
       (f_X5_needEither (99 : Int32) q7.2).bind fun q16 =>
       if q16.1 = 0 then
         some ((0 : Int32), q16.2)
       else
         if inb (M.1 30 0 9) 10 = true then
          let M18 := sR q16.2 11 i2 (upd (q16.2.1 11 i2) ((M.1 30 0 9).toNatClampNeg) (q16.2.1 30 0 9))
          f_X2_readJuror_55 i2 (M.1 30 0 9) M18
         else none
    else none
   else none
  else none
set_option maxRecDepth 20000 in
set_option maxHeartbeats 2000000 in
theorem b_X2_readJuror_85 {E : wEnv} {Y : YT} (C : Cx E Y cX2_readJuror 4 RX2 4) {q : (Int32 × Mem)} (R : Rx E Y (some .boolean) (some (.int q.1)) q.2) {i2 : Nat} {x3 : Int32} (hi2 : i2 < cnt 8) {M : Mem} (h : f_X2_readJuror_85 i2 x3 M = some q) : G E Y 4 M 85 [(1, .ref (ad E 30 0)), (2, .ref (ad E 8 i2)), (3, .int x3)] [] := by
  unfold f_X2_readJuror_85 at h
  refine g_aload_n C dX2_readJuror_85 rfl rfl ?_
  refine g_iconst (v := (4 : Int32)) C dX2_readJuror_86 (by decide) ?_
  obtain ⟨q9, hr9, h⟩ := Option.bind_eq_some_iff.mp h
  refine call_X2_112 C dX2_readJuror_87 (by decide) (c_X5_takeWord E hr9) (by decide) rfl ?_
  refine g_if_eq (tgt := 115) C dX2_readJuror_90 (by decide) h (fun h => ?_) (fun h => ?_)
  · refine g_iconst (v := (1 : Int32)) C dX2_readJuror_115 (by decide) ?_
    exact g_zret C R dX2_readJuror_116 (fst_of h) (Or.inr rfl) (snd_of h)
  · refine g_aload_n C dX2_readJuror_93 rfl rfl ?_
    refine g_iconst (v := (0 : Int32)) C dX2_readJuror_94 (by decide) ?_
    refine g_bipush (v := (99 : Int32)) C dX2_readJuror_95 (by decide) ?_
    obtain ⟨q10, hr10, h⟩ := Option.bind_eq_some_iff.mp h
    refine call_X2_118 C dX2_readJuror_97 (by decide) (c_X5_needNumber E hr10) (by decide) rfl ?_
    refine g_if_ne (tgt := 105) C dX2_readJuror_100 (by decide) h (fun h => ?_) (fun h => ?_)
    · refine g_aload_n C dX2_readJuror_105 rfl rfl ?_
      refine get_X2_109 C dX2_readJuror_106 hi2 ?_
      refine g_iload_n C dX2_readJuror_109 rfl rfl ?_
      refine g_aload_n C dX2_readJuror_110 rfl rfl ?_
      refine get_X2_99 C dX2_readJuror_111 (by decide) ?_
      obtain ⟨hb11, h⟩ := of_ite h
      refine st_13 (j := _) C dX2_readJuror_114 (Nat.lt_of_lt_of_le hi2 (by decide : cnt 8 ≤ cnt 13)) hb11 rfl ?_
      refine g_iconst (v := (1 : Int32)) C dX2_readJuror_115 (by decide) ?_
      exact g_zret C R dX2_readJuror_116 (fst_of h) (Or.inr rfl) (snd_of h)
    · refine g_iconst (v := (0 : Int32)) C dX2_readJuror_103 (by decide) ?_
      exact g_zret C R dX2_readJuror_104 (fst_of h) (Or.inl rfl) (snd_of h)
set_option maxRecDepth 20000 in
set_option maxHeartbeats 2000000 in
theorem b_X2_readJuror_55 {E : wEnv} {Y : YT} (C : Cx E Y cX2_readJuror 4 RX2 4) {q : (Int32 × Mem)} (R : Rx E Y (some .boolean) (some (.int q.1)) q.2) {i2 : Nat} {x3 : Int32} (hi2 : i2 < cnt 8) {M : Mem} (h : f_X2_readJuror_55 i2 x3 M = some q) : G E Y 4 M 55 [(1, .ref (ad E 30 0)), (2, .ref (ad E 8 i2)), (3, .int x3)] [] := by
  unfold f_X2_readJuror_55 at h
  refine g_aload_n C dX2_readJuror_55 rfl rfl ?_
  refine g_iconst (v := (3 : Int32)) C dX2_readJuror_56 (by decide) ?_
  obtain ⟨q8, hr8, h⟩ := Option.bind_eq_some_iff.mp h
  refine call_X2_112 C dX2_readJuror_57 (by decide) (c_X5_takeWord E hr8) (by decide) rfl ?_
  refine g_if_eq (tgt := 85) C dX2_readJuror_60 (by decide) h (fun h => ?_) (fun h => ?_)
  · exact g_sub (b_X2_readJuror_85 C R hi2 h) ⟨rfl, rfl, rfl, trivial⟩
  · refine g_aload_n C dX2_readJuror_63 rfl rfl ?_
    refine g_iconst (v := (0 : Int32)) C dX2_readJuror_64 (by decide) ?_
    refine g_bipush (v := (20 : Int32)) C dX2_readJuror_65 (by decide) ?_
    obtain ⟨q13, hr13, h⟩ := Option.bind_eq_some_iff.mp h
    refine call_X2_118 C dX2_readJuror_67 (by decide) (c_X5_needNumber E hr13) (by decide) rfl ?_
    refine g_if_ne (tgt := 75) C dX2_readJuror_70 (by decide) h (fun h => ?_) (fun h => ?_)
    · refine g_aload_n C dX2_readJuror_75 rfl rfl ?_
      refine get_X2_106 C dX2_readJuror_76 hi2 ?_
      refine g_iload_n C dX2_readJuror_79 rfl rfl ?_
      refine g_aload_n C dX2_readJuror_80 rfl rfl ?_
      refine get_X2_99 C dX2_readJuror_81 (by decide) ?_
      obtain ⟨hb14, h⟩ := of_ite h
      refine st_12 (j := _) C dX2_readJuror_84 (Nat.lt_of_lt_of_le hi2 (by decide : cnt 8 ≤ cnt 12)) hb14 rfl ?_
      exact g_sub (b_X2_readJuror_85 C R hi2 h) ⟨rfl, rfl, rfl, trivial⟩
    · refine g_iconst (v := (0 : Int32)) C dX2_readJuror_73 (by decide) ?_
      exact g_zret C R dX2_readJuror_74 (fst_of h) (Or.inl rfl) (snd_of h)
set_option maxRecDepth 20000 in
set_option maxHeartbeats 2000000 in
theorem c_X2_readJuror (E : wEnv) {i2 : Nat} {M : Mem} {q : (Int32 × Mem)} (hi2 : i2 < cnt 8) (h : f_X2_readJuror i2 M = some q) : Mt E yX2_readJuror cX2_readJuror 4 (some .boolean) 4 [.ref (ad E 33 0), .ref (ad E 30 0), .ref (ad E 8 i2)] M (some (.int q.1)) q.2 := by
  unfold f_X2_readJuror at h
  refine mt_intro (own := RX2) (lv0 := [(0, .ref (ad E 33 0)), (1, .ref (ad E 30 0)), (2, .ref (ad E 8 i2))]) (by decide) rfl rfl rfl (fun Y C R => ?_)
  refine g_aload_n C dX2_readJuror_0 rfl rfl ?_
  refine get_X2_99 C dX2_readJuror_1 (by decide) ?_
  refine g_istore_n C dX2_readJuror_4 rfl rfl ?_
  refine g_aload_n C dX2_readJuror_5 rfl rfl ?_
  refine get_X2_102 C dX2_readJuror_6 hi2 ?_
  refine g_iload_n C dX2_readJuror_9 rfl rfl ?_
  refine g_iconst (v := (0 : Int32)) C dX2_readJuror_10 (by decide) ?_
  obtain ⟨hb1, h⟩ := of_ite h
  refine st_11 (j := _) C dX2_readJuror_11 (Nat.lt_of_lt_of_le hi2 (by decide : cnt 8 ≤ cnt 11)) hb1 rfl ?_
  refine g_aload_n C dX2_readJuror_12 rfl rfl ?_
  refine get_X2_106 C dX2_readJuror_13 hi2 ?_
  refine g_iload_n C dX2_readJuror_16 rfl rfl ?_
  refine g_iconst (v := (0 : Int32)) C dX2_readJuror_17 (by decide) ?_
  obtain ⟨hb3, h⟩ := of_ite h
  refine st_12 (j := _) C dX2_readJuror_18 (Nat.lt_of_lt_of_le hi2 (by decide : cnt 8 ≤ cnt 12)) hb3 rfl ?_
  refine g_aload_n C dX2_readJuror_19 rfl rfl ?_
  refine get_X2_109 C dX2_readJuror_20 hi2 ?_
  refine g_iload_n C dX2_readJuror_23 rfl rfl ?_
  refine g_iconst (v := (0 : Int32)) C dX2_readJuror_24 (by decide) ?_
  obtain ⟨hb5, h⟩ := of_ite h
  refine st_13 (j := _) C dX2_readJuror_25 (Nat.lt_of_lt_of_le hi2 (by decide : cnt 8 ≤ cnt 13)) hb5 rfl ?_
  refine g_aload_n C dX2_readJuror_26 rfl rfl ?_
  refine g_iconst (v := (1 : Int32)) C dX2_readJuror_27 (by decide) ?_
  obtain ⟨q7, hr7, h⟩ := Option.bind_eq_some_iff.mp h
  refine call_X2_112 C dX2_readJuror_28 (by decide) (c_X5_takeWord E hr7) (by decide) rfl ?_
  refine g_if_eq (tgt := 55) C dX2_readJuror_31 (by decide) h (fun h => ?_) (fun h => ?_)
  · exact g_sub (b_X2_readJuror_55 C R hi2 h) ⟨rfl, rfl, rfl, trivial⟩
  · refine g_aload_n C dX2_readJuror_34 rfl rfl ?_
    refine g_bipush (v := (99 : Int32)) C dX2_readJuror_35 (by decide) ?_
    obtain ⟨q16, hr16, h⟩ := Option.bind_eq_some_iff.mp h
    refine call_X2_115 C dX2_readJuror_37 (by decide) (c_X5_needEither E hr16) (by decide) rfl ?_
    refine g_if_ne (tgt := 45) C dX2_readJuror_40 (by decide) h (fun h => ?_) (fun h => ?_)
    · refine g_aload_n C dX2_readJuror_45 rfl rfl ?_
      refine get_X2_102 C dX2_readJuror_46 hi2 ?_
      refine g_iload_n C dX2_readJuror_49 rfl rfl ?_
      refine g_aload_n C dX2_readJuror_50 rfl rfl ?_
      refine get_X2_99 C dX2_readJuror_51 (by decide) ?_
      obtain ⟨hb17, h⟩ := of_ite h
      refine st_11 (j := _) C dX2_readJuror_54 (Nat.lt_of_lt_of_le hi2 (by decide : cnt 8 ≤ cnt 11)) hb17 rfl ?_
      exact g_sub (b_X2_readJuror_55 C R hi2 h) ⟨rfl, rfl, rfl, trivial⟩
    · refine g_iconst (v := (0 : Int32)) C dX2_readJuror_43 (by decide) ?_
      exact g_zret C R dX2_readJuror_44 (fst_of h) (Or.inl rfl) (snd_of h)
noncomputable def f_X5_seeKnown (i1 : Nat) (x2 : Int32) (M : Mem) : Option (Int32 × Mem) :=
  (f_X5_isName M).bind fun r1 =>
  if r1 = 0 then
    (f_X5_fail (2 : Int32) M).bind fun q5 =>
    if isB q5.1 = true then some (q5.1, q5.2) else none
  else
    (f_X1_find i1 x2 (M.2 30 0 8) M).bind fun r2 =>
    let M3 := sR M 30 0 (upd (M.1 30 0) 9 r2)
    if (M3.1 30 0 9) = (-1 : Int32) then
      (f_X5_fail (3 : Int32) M3).bind fun q4 =>
      if q4.1 = 0 then
        some ((0 : Int32), q4.2)
      else
        some ((1 : Int32), q4.2)
    else
      some ((1 : Int32), M3)
set_option maxRecDepth 20000 in
set_option maxHeartbeats 2000000 in
theorem c_X5_seeKnown (E : wEnv) {i1 : Nat} {x2 : Int32} {M : Mem} {q : (Int32 × Mem)} (hi1 : i1 < cnt 8) (h : f_X5_seeKnown i1 x2 M = some q) : Mt E yX5_seeKnown cX5_seeKnown 3 (some .boolean) 1 [.ref (ad E 30 0), .ref (ad E 8 i1), .int x2] M (some (.int q.1)) q.2 := by
  unfold f_X5_seeKnown at h
  refine mt_intro (own := RX5) (lv0 := [(0, .ref (ad E 30 0)), (1, .ref (ad E 8 i1)), (2, .int x2)]) (by decide) rfl rfl rfl (fun Y C R => ?_)
  refine g_aload_n C dX5_seeKnown_0 rfl rfl ?_
  obtain ⟨r1, hr1, h⟩ := Option.bind_eq_some_iff.mp h
  refine call_X5_90 C dX5_seeKnown_1 (by decide) (c_X5_isName E hr1) (by decide) rfl ?_
  refine g_if_ne (tgt := 13) C dX5_seeKnown_4 (by decide) h (fun h => ?_) (fun h => ?_)
  · refine g_aload_n C dX5_seeKnown_13 rfl rfl ?_
    refine g_aload_n C dX5_seeKnown_14 rfl rfl ?_
    refine g_iload_n C dX5_seeKnown_15 rfl rfl ?_
    refine g_aload_n C dX5_seeKnown_16 rfl rfl ?_
    refine get_X5_38 C dX5_seeKnown_17 (by decide) ?_
    obtain ⟨r2, hr2, h⟩ := Option.bind_eq_some_iff.mp h
    refine call_X5_94 C dX5_seeKnown_20 hi1 (c_X1_find E hi1 hr2) (by decide) rfl ?_
    refine put_X5_42 C dX5_seeKnown_23 (by decide) ?_
    refine g_aload_n C dX5_seeKnown_26 rfl rfl ?_
    refine get_X5_42 C dX5_seeKnown_27 (by decide) ?_
    refine g_iconst (v := (-1 : Int32)) C dX5_seeKnown_30 (by decide) ?_
    refine g_icmp_ne (tgt := 42) C dX5_seeKnown_31 (by decide) h (fun h => ?_) (fun h => ?_)
    · refine g_iconst (v := (1 : Int32)) C dX5_seeKnown_42 (by decide) ?_
      refine g_goto (tgt := 47) C dX5_seeKnown_43 (by decide) ?_
      exact g_zret C R dX5_seeKnown_47 (fst_of h) (Or.inr rfl) (snd_of h)
    · refine g_aload_n C dX5_seeKnown_34 rfl rfl ?_
      refine g_iconst (v := (3 : Int32)) C dX5_seeKnown_35 (by decide) ?_
      obtain ⟨q4, hr4, h⟩ := Option.bind_eq_some_iff.mp h
      refine call_X5_83 C dX5_seeKnown_36 (by decide) (c_X5_fail E hr4) (by decide) rfl ?_
      refine g_if_eq (tgt := 46) C dX5_seeKnown_39 (by decide) h (fun h => ?_) (fun h => ?_)
      · refine g_iconst (v := (0 : Int32)) C dX5_seeKnown_46 (by decide) ?_
        exact g_zret C R dX5_seeKnown_47 (fst_of h) (Or.inl rfl) (snd_of h)
      · refine g_iconst (v := (1 : Int32)) C dX5_seeKnown_42 (by decide) ?_
        refine g_goto (tgt := 47) C dX5_seeKnown_43 (by decide) ?_
        exact g_zret C R dX5_seeKnown_47 (fst_of h) (Or.inr rfl) (snd_of h)
  · refine g_aload_n C dX5_seeKnown_7 rfl rfl ?_
    refine g_iconst (v := (2 : Int32)) C dX5_seeKnown_8 (by decide) ?_
    obtain ⟨q5, hr5, h⟩ := Option.bind_eq_some_iff.mp h
    refine call_X5_83 C dX5_seeKnown_9 (by decide) (c_X5_fail E hr5) (by decide) rfl ?_
    obtain ⟨hz6, h⟩ := of_ite h
    exact g_zret C R dX5_seeKnown_12 (fst_of h) (isB_of hz6) (snd_of h)
noncomputable def f_X5_needKnown (i1 : Nat) (x2 : Int32) (M : Mem) : Option (Int32 × Mem) :=
  (f_X5_seeKnown i1 x2 M).bind fun q1 =>
  if q1.1 = 0 then
    some ((0 : Int32), q1.2)
  else
    (f_X5_advance q1.2).bind fun M2 =>
    some ((1 : Int32), M2)
set_option maxRecDepth 20000 in
set_option maxHeartbeats 2000000 in
theorem c_X5_needKnown (E : wEnv) {i1 : Nat} {x2 : Int32} {M : Mem} {q : (Int32 × Mem)} (hi1 : i1 < cnt 8) (h : f_X5_needKnown i1 x2 M = some q) : Mt E yX5_needKnown cX5_needKnown 3 (some .boolean) 2 [.ref (ad E 30 0), .ref (ad E 8 i1), .int x2] M (some (.int q.1)) q.2 := by
  unfold f_X5_needKnown at h
  refine mt_intro (own := RX5) (lv0 := [(0, .ref (ad E 30 0)), (1, .ref (ad E 8 i1)), (2, .int x2)]) (by decide) rfl rfl rfl (fun Y C R => ?_)
  refine g_aload_n C dX5_needKnown_0 rfl rfl ?_
  refine g_aload_n C dX5_needKnown_1 rfl rfl ?_
  refine g_iload_n C dX5_needKnown_2 rfl rfl ?_
  obtain ⟨q1, hr1, h⟩ := Option.bind_eq_some_iff.mp h
  refine call_X5_100 C dX5_needKnown_3 (by decide) (c_X5_seeKnown E hi1 hr1) (by decide) rfl ?_
  refine g_if_ne (tgt := 11) C dX5_needKnown_6 (by decide) h (fun h => ?_) (fun h => ?_)
  · refine g_aload_n C dX5_needKnown_11 rfl rfl ?_
    obtain ⟨M2, hr2, h⟩ := Option.bind_eq_some_iff.mp h
    refine call_X5_64 C dX5_needKnown_12 (by decide) (c_X5_advance E hr2) (by decide) rfl ?_
    refine g_iconst (v := (1 : Int32)) C dX5_needKnown_15 (by decide) ?_
    exact g_zret C R dX5_needKnown_16 (fst_of h) (Or.inr rfl) (snd_of h)
  · refine g_iconst (v := (0 : Int32)) C dX5_needKnown_9 (by decide) ?_
    exact g_zret C R dX5_needKnown_10 (fst_of h) (Or.inl rfl) (snd_of h)
noncomputable def f_X2_readSways (i2 : Nat) (M : Mem) : Option (Int32 × Mem) :=
  (f_X5_advance M).bind fun M1 =>
  (f_X5_needKnown i2 (0 : Int32) M1).bind fun q2 =>
  if q2.1 = 0 then
    some ((0 : Int32), q2.2)
  else
    (f_X5_seeKnown i2 (0 : Int32) q2.2).bind fun q3 =>
    if q3.1 = 0 then
      some ((0 : Int32), q3.2)
    else
      if (q2.2.1 30 0 9) = (q3.2.1 30 0 9) then
        (f_X5_fail (5 : Int32) q3.2).bind fun q7 =>
        if isB q7.1 = true then some (q7.1, q7.2) else none
      else
        (f_X5_advance q3.2).bind fun M4 =>
        (f_X5_needNumber (0 : Int32) (20 : Int32) M4).bind fun q5 =>
        if q5.1 = 0 then
          some ((0 : Int32), q5.2)
        else
          (f_X1_setSway i2 (q2.2.1 30 0 9) (q3.2.1 30 0 9) (q5.2.1 30 0 9) q5.2).bind fun M6 =>
          some ((1 : Int32), M6)
set_option maxRecDepth 20000 in
set_option maxHeartbeats 2000000 in
theorem c_X2_readSways (E : wEnv) {i2 : Nat} {M : Mem} {q : (Int32 × Mem)} (hi2 : i2 < cnt 8) (h : f_X2_readSways i2 M = some q) : Mt E yX2_readSways cX2_readSways 5 (some .boolean) 3 [.ref (ad E 33 0), .ref (ad E 30 0), .ref (ad E 8 i2)] M (some (.int q.1)) q.2 := by
  unfold f_X2_readSways at h
  refine mt_intro (own := RX2) (lv0 := [(0, .ref (ad E 33 0)), (1, .ref (ad E 30 0)), (2, .ref (ad E 8 i2))]) (by decide) rfl rfl rfl (fun Y C R => ?_)
  refine g_aload_n C dX2_readSways_0 rfl rfl ?_
  obtain ⟨M1, hr1, h⟩ := Option.bind_eq_some_iff.mp h
  refine call_X2_81 C dX2_readSways_1 (by decide) (c_X5_advance E hr1) (by decide) rfl ?_
  refine g_aload_n C dX2_readSways_4 rfl rfl ?_
  refine g_aload_n C dX2_readSways_5 rfl rfl ?_
  refine g_iconst (v := (0 : Int32)) C dX2_readSways_6 (by decide) ?_
  obtain ⟨q2, hr2, h⟩ := Option.bind_eq_some_iff.mp h
  refine call_X2_122 C dX2_readSways_7 (by decide) (c_X5_needKnown E hi2 hr2) (by decide) rfl ?_
  refine g_if_ne (tgt := 15) C dX2_readSways_10 (by decide) h (fun h => ?_) (fun h => ?_)
  · refine g_aload_n C dX2_readSways_15 rfl rfl ?_
    refine get_X2_99 C dX2_readSways_16 (by decide) ?_
    refine g_istore_n C dX2_readSways_19 rfl rfl ?_
    refine g_aload_n C dX2_readSways_20 rfl rfl ?_
    refine g_aload_n C dX2_readSways_21 rfl rfl ?_
    refine g_iconst (v := (0 : Int32)) C dX2_readSways_22 (by decide) ?_
    obtain ⟨q3, hr3, h⟩ := Option.bind_eq_some_iff.mp h
    refine call_X2_126 C dX2_readSways_23 (by decide) (c_X5_seeKnown E hi2 hr3) (by decide) rfl ?_
    refine g_if_ne (tgt := 31) C dX2_readSways_26 (by decide) h (fun h => ?_) (fun h => ?_)
    · refine g_aload_n C dX2_readSways_31 rfl rfl ?_
      refine get_X2_99 C dX2_readSways_32 (by decide) ?_
      refine g_istore C dX2_readSways_35 rfl ?_
      refine g_iload_n C dX2_readSways_37 rfl rfl ?_
      refine g_iload C dX2_readSways_38 rfl ?_
      refine g_icmp_ne (tgt := 49) C dX2_readSways_40 (by decide) h (fun h => ?_) (fun h => ?_)
      · refine g_aload_n C dX2_readSways_49 rfl rfl ?_
        obtain ⟨M4, hr4, h⟩ := Option.bind_eq_some_iff.mp h
        refine call_X2_81 C dX2_readSways_50 (by decide) (c_X5_advance E hr4) (by decide) rfl ?_
        refine g_aload_n C dX2_readSways_53 rfl rfl ?_
        refine g_iconst (v := (0 : Int32)) C dX2_readSways_54 (by decide) ?_
        refine g_bipush (v := (20 : Int32)) C dX2_readSways_55 (by decide) ?_
        obtain ⟨q5, hr5, h⟩ := Option.bind_eq_some_iff.mp h
        refine call_X2_118 C dX2_readSways_57 (by decide) (c_X5_needNumber E hr5) (by decide) rfl ?_
        refine g_if_ne (tgt := 65) C dX2_readSways_60 (by decide) h (fun h => ?_) (fun h => ?_)
        · refine g_aload_n C dX2_readSways_65 rfl rfl ?_
          refine g_iload_n C dX2_readSways_66 rfl rfl ?_
          refine g_iload C dX2_readSways_67 rfl ?_
          refine g_aload_n C dX2_readSways_69 rfl rfl ?_
          refine get_X2_99 C dX2_readSways_70 (by decide) ?_
          obtain ⟨M6, hr6, h⟩ := Option.bind_eq_some_iff.mp h
          refine call_X2_129 C dX2_readSways_73 hi2 (c_X1_setSway E hi2 hr6) (by decide) rfl ?_
          refine g_iconst (v := (1 : Int32)) C dX2_readSways_76 (by decide) ?_
          exact g_zret C R dX2_readSways_77 (fst_of h) (Or.inr rfl) (snd_of h)
        · refine g_iconst (v := (0 : Int32)) C dX2_readSways_63 (by decide) ?_
          exact g_zret C R dX2_readSways_64 (fst_of h) (Or.inl rfl) (snd_of h)
      · refine g_aload_n C dX2_readSways_43 rfl rfl ?_
        refine g_iconst (v := (5 : Int32)) C dX2_readSways_44 (by decide) ?_
        obtain ⟨q7, hr7, h⟩ := Option.bind_eq_some_iff.mp h
        refine call_X2_74 C dX2_readSways_45 (by decide) (c_X5_fail E hr7) (by decide) rfl ?_
        obtain ⟨hz8, h⟩ := of_ite h
        exact g_zret C R dX2_readSways_48 (fst_of h) (isB_of hz8) (snd_of h)
    · refine g_iconst (v := (0 : Int32)) C dX2_readSways_29 (by decide) ?_
      exact g_zret C R dX2_readSways_30 (fst_of h) (Or.inl rfl) (snd_of h)
  · refine g_iconst (v := (0 : Int32)) C dX2_readSways_13 (by decide) ?_
    exact g_zret C R dX2_readSways_14 (fst_of h) (Or.inl rfl) (snd_of h)
noncomputable def f_X2_readProof (i2 : Nat) (M : Mem) : Option (Int32 × Mem) :=
  (f_X5_needEither (99 : Int32) M).bind fun q1 =>
  if q1.1 = 0 then
    some ((0 : Int32), q1.2)
  else
    if inb (M.1 30 0 9) 6 = true then
     let M3 := sR q1.2 16 i2 (upd (q1.2.1 16 i2) ((M.1 30 0 9).toNatClampNeg) (q1.2.1 30 0 9))
     some ((1 : Int32), M3)
    else none
set_option maxRecDepth 20000 in
set_option maxHeartbeats 2000000 in
theorem c_X2_readProof (E : wEnv) {i2 : Nat} {M : Mem} {q : (Int32 × Mem)} (hi2 : i2 < cnt 8) (h : f_X2_readProof i2 M = some q) : Mt E yX2_readProof cX2_readProof 4 (some .boolean) 4 [.ref (ad E 33 0), .ref (ad E 30 0), .ref (ad E 8 i2)] M (some (.int q.1)) q.2 := by
  unfold f_X2_readProof at h
  refine mt_intro (own := RX2) (lv0 := [(0, .ref (ad E 33 0)), (1, .ref (ad E 30 0)), (2, .ref (ad E 8 i2))]) (by decide) rfl rfl rfl (fun Y C R => ?_)
  refine g_aload_n C dX2_readProof_0 rfl rfl ?_
  refine get_X2_99 C dX2_readProof_1 (by decide) ?_
  refine g_istore_n C dX2_readProof_4 rfl rfl ?_
  refine g_aload_n C dX2_readProof_5 rfl rfl ?_
  refine g_bipush (v := (99 : Int32)) C dX2_readProof_6 (by decide) ?_
  obtain ⟨q1, hr1, h⟩ := Option.bind_eq_some_iff.mp h
  refine call_X2_115 C dX2_readProof_8 (by decide) (c_X5_needEither E hr1) (by decide) rfl ?_
  refine g_if_ne (tgt := 16) C dX2_readProof_11 (by decide) h (fun h => ?_) (fun h => ?_)
  · refine g_aload_n C dX2_readProof_16 rfl rfl ?_
    refine get_X2_133 C dX2_readProof_17 hi2 ?_
    refine g_iload_n C dX2_readProof_20 rfl rfl ?_
    refine g_aload_n C dX2_readProof_21 rfl rfl ?_
    refine get_X2_99 C dX2_readProof_22 (by decide) ?_
    obtain ⟨hb2, h⟩ := of_ite h
    refine st_16 (j := _) C dX2_readProof_25 (Nat.lt_of_lt_of_le hi2 (by decide : cnt 8 ≤ cnt 16)) hb2 rfl ?_
    refine g_iconst (v := (1 : Int32)) C dX2_readProof_26 (by decide) ?_
    exact g_zret C R dX2_readProof_27 (fst_of h) (Or.inr rfl) (snd_of h)
  · refine g_iconst (v := (0 : Int32)) C dX2_readProof_14 (by decide) ?_
    exact g_zret C R dX2_readProof_15 (fst_of h) (Or.inl rfl) (snd_of h)
noncomputable def f_X2_startWeather (i1 : Nat) (M : Mem) : Option (Int32 × Mem) :=
  let x2_1 := ((M.1 9 i1 2) - (1 : Int32))
  if inb x2_1 6 = true then
   let M3 := sR M 17 i1 (upd (M.1 17 i1) x2_1.toNatClampNeg x2_1)
   if inb x2_1 6 = true then
    let M5 := sR M3 18 i1 (upd (M3.1 18 i1) x2_1.toNatClampNeg x2_1)
    some ((1 : Int32), M5)
   else none
  else none
set_option maxRecDepth 20000 in
set_option maxHeartbeats 2000000 in
theorem c_X2_startWeather (E : wEnv) {i1 : Nat} {M : Mem} {q : (Int32 × Mem)} (hi1 : i1 < cnt 8) (h : f_X2_startWeather i1 M = some q) : Mt E yX2_startWeather cX2_startWeather 3 (some .boolean) 0 [.ref (ad E 33 0), .ref (ad E 8 i1)] M (some (.int q.1)) q.2 := by
  unfold f_X2_startWeather at h
  refine mt_intro (own := RX2) (lv0 := [(0, .ref (ad E 33 0)), (1, .ref (ad E 8 i1))]) (by decide) rfl rfl rfl (fun Y C R => ?_)
  refine g_aload_n C dX2_startWeather_0 rfl rfl ?_
  refine get_X2_136 C dX2_startWeather_1 hi1 ?_
  refine g_iconst (v := (2 : Int32)) C dX2_startWeather_4 (by decide) ?_
  refine ld_9 (j := 2) C dX2_startWeather_5 (Nat.lt_of_lt_of_le hi1 (by decide : cnt 8 ≤ cnt 9)) (by decide) rfl ?_
  refine g_iconst (v := (1 : Int32)) C dX2_startWeather_6 (by decide) ?_
  refine g_isub C dX2_startWeather_7 ?_
  refine g_istore_n C dX2_startWeather_8 rfl rfl ?_
  refine g_aload_n C dX2_startWeather_9 rfl rfl ?_
  refine get_X2_139 C dX2_startWeather_10 hi1 ?_
  refine g_iload_n C dX2_startWeather_13 rfl rfl ?_
  refine g_iload_n C dX2_startWeather_14 rfl rfl ?_
  obtain ⟨hb2, h⟩ := of_ite h
  refine st_17 (j := _) C dX2_startWeather_15 (Nat.lt_of_lt_of_le hi1 (by decide : cnt 8 ≤ cnt 17)) hb2 rfl ?_
  refine g_aload_n C dX2_startWeather_16 rfl rfl ?_
  refine get_X2_142 C dX2_startWeather_17 hi1 ?_
  refine g_iload_n C dX2_startWeather_20 rfl rfl ?_
  refine g_iload_n C dX2_startWeather_21 rfl rfl ?_
  obtain ⟨hb4, h⟩ := of_ite h
  refine st_18 (j := _) C dX2_startWeather_22 (Nat.lt_of_lt_of_le hi1 (by decide : cnt 8 ≤ cnt 18)) hb4 rfl ?_
  refine g_iconst (v := (1 : Int32)) C dX2_startWeather_23 (by decide) ?_
  exact g_zret C R dX2_startWeather_24 (fst_of h) (Or.inr rfl) (snd_of h)
noncomputable def f_X5_needWord (x1 : Int32) (M : Mem) : Option (Int32 × Mem) :=
  (f_X5_takeWord x1 M).bind fun q1 =>
  if q1.1 = 0 then
    (f_X5_fail (2 : Int32) q1.2).bind fun q2 =>
    if q2.1 = 0 then
      some ((0 : Int32), q2.2)
    else
      some ((1 : Int32), q2.2)
  else
    some ((1 : Int32), q1.2)
set_option maxRecDepth 20000 in
set_option maxHeartbeats 2000000 in
theorem c_X5_needWord (E : wEnv) {x1 : Int32} {M : Mem} {q : (Int32 × Mem)} (h : f_X5_needWord x1 M = some q) : Mt E yX5_needWord cX5_needWord 2 (some .boolean) 3 [.ref (ad E 30 0), .int x1] M (some (.int q.1)) q.2 := by
  unfold f_X5_needWord at h
  refine mt_intro (own := RX5) (lv0 := [(0, .ref (ad E 30 0)), (1, .int x1)]) (by decide) rfl rfl rfl (fun Y C R => ?_)
  refine g_aload_n C dX5_needWord_0 rfl rfl ?_
  refine g_iload_n C dX5_needWord_1 rfl rfl ?_
  obtain ⟨q1, hr1, h⟩ := Option.bind_eq_some_iff.mp h
  refine call_X5_79 C dX5_needWord_2 (by decide) (c_X5_takeWord E hr1) (by decide) rfl ?_
  refine g_if_ne (tgt := 16) C dX5_needWord_5 (by decide) h (fun h => ?_) (fun h => ?_)
  · refine g_iconst (v := (1 : Int32)) C dX5_needWord_16 (by decide) ?_
    refine g_goto (tgt := 21) C dX5_needWord_17 (by decide) ?_
    exact g_zret C R dX5_needWord_21 (fst_of h) (Or.inr rfl) (snd_of h)
  · refine g_aload_n C dX5_needWord_8 rfl rfl ?_
    refine g_iconst (v := (2 : Int32)) C dX5_needWord_9 (by decide) ?_
    obtain ⟨q2, hr2, h⟩ := Option.bind_eq_some_iff.mp h
    refine call_X5_83 C dX5_needWord_10 (by decide) (c_X5_fail E hr2) (by decide) rfl ?_
    refine g_if_eq (tgt := 20) C dX5_needWord_13 (by decide) h (fun h => ?_) (fun h => ?_)
    · refine g_iconst (v := (0 : Int32)) C dX5_needWord_20 (by decide) ?_
      exact g_zret C R dX5_needWord_21 (fst_of h) (Or.inl rfl) (snd_of h)
    · refine g_iconst (v := (1 : Int32)) C dX5_needWord_16 (by decide) ?_
      refine g_goto (tgt := 21) C dX5_needWord_17 (by decide) ?_
      exact g_zret C R dX5_needWord_21 (fst_of h) (Or.inr rfl) (snd_of h)
noncomputable def f_X2_readFollows (i2 : Nat) (M : Mem) : Option (Int32 × Mem) :=
  (f_X5_advance M).bind fun M1 =>
  (f_X5_needKnown i2 (2 : Int32) M1).bind fun q2 =>
  if q2.1 = 0 then
    some ((0 : Int32), q2.2)
  else
    (f_X5_needWord (9 : Int32) q2.2).bind fun q3 =>
    if q3.1 = 0 then
      some ((0 : Int32), q3.2)
    else
      (f_X5_needKnown i2 (2 : Int32) q3.2).bind fun q4 =>
      if q4.1 = 0 then
        some ((0 : Int32), q4.2)
      else
        (f_X5_needWord (10 : Int32) q4.2).bind fun q5 =>
        if q5.1 = 0 then
          some ((0 : Int32), q5.2)
        else
          (f_X5_needKnown i2 (2 : Int32) q5.2).bind fun q6 =>
          if q6.1 = 0 then
            some ((0 : Int32), q6.2)
          else
            if inb (q2.2.1 30 0 9) 6 = true then
             let M8 := sR q6.2 17 i2 (upd (q6.2.1 17 i2) ((q2.2.1 30 0 9).toNatClampNeg) (q4.2.1 30 0 9))
             if inb (q2.2.1 30 0 9) 6 = true then
              let M10 := sR M8 18 i2 (upd (M8.1 18 i2) ((q2.2.1 30 0 9).toNatClampNeg) (M8.1 30 0 9))
              some ((1 : Int32), M10)
             else none
            else none
set_option maxRecDepth 20000 in
set_option maxHeartbeats 2000000 in
theorem c_X2_readFollows (E : wEnv) {i2 : Nat} {M : Mem} {q : (Int32 × Mem)} (hi2 : i2 < cnt 8) (h : f_X2_readFollows i2 M = some q) : Mt E yX2_readFollows cX2_readFollows 5 (some .boolean) 4 [.ref (ad E 33 0), .ref (ad E 30 0), .ref (ad E 8 i2)] M (some (.int q.1)) q.2 := by
  unfold f_X2_readFollows at h
  refine mt_intro (own := RX2) (lv0 := [(0, .ref (ad E 33 0)), (1, .ref (ad E 30 0)), (2, .ref (ad E 8 i2))]) (by decide) rfl rfl rfl (fun Y C R => ?_)
  refine g_aload_n C dX2_readFollows_0 rfl rfl ?_
  obtain ⟨M1, hr1, h⟩ := Option.bind_eq_some_iff.mp h
  refine call_X2_81 C dX2_readFollows_1 (by decide) (c_X5_advance E hr1) (by decide) rfl ?_
  refine g_aload_n C dX2_readFollows_4 rfl rfl ?_
  refine g_aload_n C dX2_readFollows_5 rfl rfl ?_
  refine g_iconst (v := (2 : Int32)) C dX2_readFollows_6 (by decide) ?_
  obtain ⟨q2, hr2, h⟩ := Option.bind_eq_some_iff.mp h
  refine call_X2_122 C dX2_readFollows_7 (by decide) (c_X5_needKnown E hi2 hr2) (by decide) rfl ?_
  refine g_if_ne (tgt := 15) C dX2_readFollows_10 (by decide) h (fun h => ?_) (fun h => ?_)
  · refine g_aload_n C dX2_readFollows_15 rfl rfl ?_
    refine get_X2_99 C dX2_readFollows_16 (by decide) ?_
    refine g_istore_n C dX2_readFollows_19 rfl rfl ?_
    refine g_aload_n C dX2_readFollows_20 rfl rfl ?_
    refine g_bipush (v := (9 : Int32)) C dX2_readFollows_21 (by decide) ?_
    obtain ⟨q3, hr3, h⟩ := Option.bind_eq_some_iff.mp h
    refine call_X2_145 C dX2_readFollows_23 (by decide) (c_X5_needWord E hr3) (by decide) rfl ?_
    refine g_if_eq (tgt := 38) C dX2_readFollows_26 (by decide) h (fun h => ?_) (fun h => ?_)
    · refine g_iconst (v := (0 : Int32)) C dX2_readFollows_38 (by decide) ?_
      exact g_zret C R dX2_readFollows_39 (fst_of h) (Or.inl rfl) (snd_of h)
    · refine g_aload_n C dX2_readFollows_29 rfl rfl ?_
      refine g_aload_n C dX2_readFollows_30 rfl rfl ?_
      refine g_iconst (v := (2 : Int32)) C dX2_readFollows_31 (by decide) ?_
      obtain ⟨q4, hr4, h⟩ := Option.bind_eq_some_iff.mp h
      refine call_X2_122 C dX2_readFollows_32 (by decide) (c_X5_needKnown E hi2 hr4) (by decide) rfl ?_
      refine g_if_ne (tgt := 40) C dX2_readFollows_35 (by decide) h (fun h => ?_) (fun h => ?_)
      · refine g_aload_n C dX2_readFollows_40 rfl rfl ?_
        refine get_X2_99 C dX2_readFollows_41 (by decide) ?_
        refine g_istore C dX2_readFollows_44 rfl ?_
        refine g_aload_n C dX2_readFollows_46 rfl rfl ?_
        refine g_bipush (v := (10 : Int32)) C dX2_readFollows_47 (by decide) ?_
        obtain ⟨q5, hr5, h⟩ := Option.bind_eq_some_iff.mp h
        refine call_X2_145 C dX2_readFollows_49 (by decide) (c_X5_needWord E hr5) (by decide) rfl ?_
        refine g_if_eq (tgt := 64) C dX2_readFollows_52 (by decide) h (fun h => ?_) (fun h => ?_)
        · refine g_iconst (v := (0 : Int32)) C dX2_readFollows_64 (by decide) ?_
          exact g_zret C R dX2_readFollows_65 (fst_of h) (Or.inl rfl) (snd_of h)
        · refine g_aload_n C dX2_readFollows_55 rfl rfl ?_
          refine g_aload_n C dX2_readFollows_56 rfl rfl ?_
          refine g_iconst (v := (2 : Int32)) C dX2_readFollows_57 (by decide) ?_
          obtain ⟨q6, hr6, h⟩ := Option.bind_eq_some_iff.mp h
          refine call_X2_122 C dX2_readFollows_58 (by decide) (c_X5_needKnown E hi2 hr6) (by decide) rfl ?_
          refine g_if_ne (tgt := 66) C dX2_readFollows_61 (by decide) h (fun h => ?_) (fun h => ?_)
          · refine g_aload_n C dX2_readFollows_66 rfl rfl ?_
            refine get_X2_139 C dX2_readFollows_67 hi2 ?_
            refine g_iload_n C dX2_readFollows_70 rfl rfl ?_
            refine g_iload C dX2_readFollows_71 rfl ?_
            obtain ⟨hb7, h⟩ := of_ite h
            refine st_17 (j := _) C dX2_readFollows_73 (Nat.lt_of_lt_of_le hi2 (by decide : cnt 8 ≤ cnt 17)) hb7 rfl ?_
            refine g_aload_n C dX2_readFollows_74 rfl rfl ?_
            refine get_X2_142 C dX2_readFollows_75 hi2 ?_
            refine g_iload_n C dX2_readFollows_78 rfl rfl ?_
            refine g_aload_n C dX2_readFollows_79 rfl rfl ?_
            refine get_X2_99 C dX2_readFollows_80 (by decide) ?_
            obtain ⟨hb9, h⟩ := of_ite h
            refine st_18 (j := _) C dX2_readFollows_83 (Nat.lt_of_lt_of_le hi2 (by decide : cnt 8 ≤ cnt 18)) hb9 rfl ?_
            refine g_iconst (v := (1 : Int32)) C dX2_readFollows_84 (by decide) ?_
            exact g_zret C R dX2_readFollows_85 (fst_of h) (Or.inr rfl) (snd_of h)
          · refine g_iconst (v := (0 : Int32)) C dX2_readFollows_64 (by decide) ?_
            exact g_zret C R dX2_readFollows_65 (fst_of h) (Or.inl rfl) (snd_of h)
      · refine g_iconst (v := (0 : Int32)) C dX2_readFollows_38 (by decide) ?_
        exact g_zret C R dX2_readFollows_39 (fst_of h) (Or.inl rfl) (snd_of h)
  · refine g_iconst (v := (0 : Int32)) C dX2_readFollows_13 (by decide) ?_
    exact g_zret C R dX2_readFollows_14 (fst_of h) (Or.inl rfl) (snd_of h)
noncomputable def f_X2_readCrop_8 (i2 : Nat) (x3 : Int32) : Nat → Int32 → Mem → Option (Int32 × Mem)
  | 0, _, _ => none
  | n + 1, x4, M =>
  if (M.1 30 0 3) < x4 then
    some ((1 : Int32), M)
  else
    (f_X5_takeWord (12 : Int32) M).bind fun q1 =>
    if q1.1 = 0 then
      some ((1 : Int32), q1.2)
    else
      (f_X5_needKnown i2 (2 : Int32) q1.2).bind fun q2 =>
      if q2.1 = 0 then
        some ((0 : Int32), q2.2)
      else
        (f_X5_needEither (99 : Int32) q2.2).bind fun q3 =>
        if q3.1 = 0 then
          some ((0 : Int32), q3.2)
        else
          (f_X1_setGrowth i2 x3 (q2.2.1 30 0 9) (q3.2.1 30 0 9) q3.2).bind fun M4 =>
          f_X2_readCrop_8 i2 x3 n (x4 + (1 : Int32)) M4
noncomputable def f_X2_readCrop (i2 : Nat) (M : Mem) : Option (Int32 × Mem) :=
  f_X2_readCrop_8 i2 (M.1 30 0 9) FU (0 : Int32) M
set_option maxRecDepth 20000 in
set_option maxHeartbeats 2000000 in
theorem b_X2_readCrop_8 {E : wEnv} {Y : YT} (C : Cx E Y cX2_readCrop 6 RX2 4) {q : (Int32 × Mem)} (R : Rx E Y (some .boolean) (some (.int q.1)) q.2) {i2 : Nat} {x3 : Int32} (hi2 : i2 < cnt 8) (n : Nat) : ∀ {x4 : Int32} {M : Mem} (_ : f_X2_readCrop_8 i2 x3 n x4 M = some q), G E Y 6 M 8 [(1, .ref (ad E 30 0)), (2, .ref (ad E 8 i2)), (3, .int x3), (4, .int x4)] [] := by
  induction n with
  | zero =>
    intro x4 M h
    cases (show none = some q from h)
  | succ n ih =>
    intro x4 M h
    rw [f_X2_readCrop_8] at h
    refine g_iload C dX2_readCrop_8 rfl ?_
    refine g_aload_n C dX2_readCrop_10 rfl rfl ?_
    refine get_X2_148 C dX2_readCrop_11 (by decide) ?_
    refine g_icmp_gt (tgt := 71) C dX2_readCrop_14 (by decide) h (fun h => ?_) (fun h => ?_)
    · refine g_iconst (v := (1 : Int32)) C dX2_readCrop_71 (by decide) ?_
      exact g_zret C R dX2_readCrop_72 (fst_of h) (Or.inr rfl) (snd_of h)
    · refine g_aload_n C dX2_readCrop_17 rfl rfl ?_
      refine g_bipush (v := (12 : Int32)) C dX2_readCrop_18 (by decide) ?_
      obtain ⟨q1, hr1, h⟩ := Option.bind_eq_some_iff.mp h
      refine call_X2_112 C dX2_readCrop_20 (by decide) (c_X5_takeWord E hr1) (by decide) rfl ?_
      refine g_if_eq (tgt := 71) C dX2_readCrop_23 (by decide) h (fun h => ?_) (fun h => ?_)
      · refine g_iconst (v := (1 : Int32)) C dX2_readCrop_71 (by decide) ?_
        exact g_zret C R dX2_readCrop_72 (fst_of h) (Or.inr rfl) (snd_of h)
      · refine g_aload_n C dX2_readCrop_26 rfl rfl ?_
        refine g_aload_n C dX2_readCrop_27 rfl rfl ?_
        refine g_iconst (v := (2 : Int32)) C dX2_readCrop_28 (by decide) ?_
        obtain ⟨q2, hr2, h⟩ := Option.bind_eq_some_iff.mp h
        refine call_X2_122 C dX2_readCrop_29 (by decide) (c_X5_needKnown E hi2 hr2) (by decide) rfl ?_
        refine g_if_ne (tgt := 37) C dX2_readCrop_32 (by decide) h (fun h => ?_) (fun h => ?_)
        · refine g_aload_n C dX2_readCrop_37 rfl rfl ?_
          refine get_X2_99 C dX2_readCrop_38 (by decide) ?_
          refine g_istore C dX2_readCrop_41 rfl ?_
          refine g_aload_n C dX2_readCrop_43 rfl rfl ?_
          refine g_bipush (v := (99 : Int32)) C dX2_readCrop_44 (by decide) ?_
          obtain ⟨q3, hr3, h⟩ := Option.bind_eq_some_iff.mp h
          refine call_X2_115 C dX2_readCrop_46 (by decide) (c_X5_needEither E hr3) (by decide) rfl ?_
          refine g_if_ne (tgt := 54) C dX2_readCrop_49 (by decide) h (fun h => ?_) (fun h => ?_)
          · refine g_aload_n C dX2_readCrop_54 rfl rfl ?_
            refine g_iload_n C dX2_readCrop_55 rfl rfl ?_
            refine g_iload C dX2_readCrop_56 rfl ?_
            refine g_aload_n C dX2_readCrop_58 rfl rfl ?_
            refine get_X2_99 C dX2_readCrop_59 (by decide) ?_
            obtain ⟨M4, hr4, h⟩ := Option.bind_eq_some_iff.mp h
            refine call_X2_151 C dX2_readCrop_62 hi2 (c_X1_setGrowth E hi2 hr4) (by decide) rfl ?_
            refine g_iinc (w := (1 : Int32)) C dX2_readCrop_65 rfl (by decide) rfl ?_
            refine g_goto (tgt := 8) C dX2_readCrop_68 (by decide) ?_
            exact g_sub (ih h) ⟨rfl, rfl, rfl, rfl, trivial⟩
          · refine g_iconst (v := (0 : Int32)) C dX2_readCrop_52 (by decide) ?_
            exact g_zret C R dX2_readCrop_53 (fst_of h) (Or.inl rfl) (snd_of h)
        · refine g_iconst (v := (0 : Int32)) C dX2_readCrop_35 (by decide) ?_
          exact g_zret C R dX2_readCrop_36 (fst_of h) (Or.inl rfl) (snd_of h)
set_option maxRecDepth 20000 in
set_option maxHeartbeats 2000000 in
theorem c_X2_readCrop (E : wEnv) {i2 : Nat} {M : Mem} {q : (Int32 × Mem)} (hi2 : i2 < cnt 8) (h : f_X2_readCrop i2 M = some q) : Mt E yX2_readCrop cX2_readCrop 6 (some .boolean) 4 [.ref (ad E 33 0), .ref (ad E 30 0), .ref (ad E 8 i2)] M (some (.int q.1)) q.2 := by
  unfold f_X2_readCrop at h
  refine mt_intro (own := RX2) (lv0 := [(0, .ref (ad E 33 0)), (1, .ref (ad E 30 0)), (2, .ref (ad E 8 i2))]) (by decide) rfl rfl rfl (fun Y C R => ?_)
  refine g_aload_n C dX2_readCrop_0 rfl rfl ?_
  refine get_X2_99 C dX2_readCrop_1 (by decide) ?_
  refine g_istore_n C dX2_readCrop_4 rfl rfl ?_
  refine g_iconst (v := (0 : Int32)) C dX2_readCrop_5 (by decide) ?_
  refine g_istore C dX2_readCrop_6 rfl ?_
  exact g_sub (b_X2_readCrop_8 C R hi2 _ h) ⟨rfl, rfl, rfl, rfl, trivial⟩
noncomputable def f_X2_readHunger (i2 : Nat) (M : Mem) : Option (Int32 × Mem) :=
  if 0 < (M.1 8 i2 11) then
    (f_X5_fail (5 : Int32) M).bind fun q4 =>
    if isB q4.1 = true then some (q4.1, q4.2) else none
  else
    (f_X5_advance M).bind fun M1 =>
    (f_X5_needNumber (1 : Int32) (99 : Int32) M1).bind fun q2 =>
    if q2.1 = 0 then
      some ((0 : Int32), q2.2)
    else
      let M3 := sR q2.2 8 i2 (upd (q2.2.1 8 i2) 11 (q2.2.1 30 0 9))
      some ((1 : Int32), M3)
set_option maxRecDepth 20000 in
set_option maxHeartbeats 2000000 in
theorem c_X2_readHunger (E : wEnv) {i2 : Nat} {M : Mem} {q : (Int32 × Mem)} (hi2 : i2 < cnt 8) (h : f_X2_readHunger i2 M = some q) : Mt E yX2_readHunger cX2_readHunger 3 (some .boolean) 3 [.ref (ad E 33 0), .ref (ad E 30 0), .ref (ad E 8 i2)] M (some (.int q.1)) q.2 := by
  unfold f_X2_readHunger at h
  refine mt_intro (own := RX2) (lv0 := [(0, .ref (ad E 33 0)), (1, .ref (ad E 30 0)), (2, .ref (ad E 8 i2))]) (by decide) rfl rfl rfl (fun Y C R => ?_)
  refine g_aload_n C dX2_readHunger_0 rfl rfl ?_
  refine get_X2_154 C dX2_readHunger_1 hi2 ?_
  refine g_if_le (tgt := 13) C dX2_readHunger_4 (by decide) h (fun h => ?_) (fun h => ?_)
  · refine g_aload_n C dX2_readHunger_13 rfl rfl ?_
    obtain ⟨M1, hr1, h⟩ := Option.bind_eq_some_iff.mp h
    refine call_X2_81 C dX2_readHunger_14 (by decide) (c_X5_advance E hr1) (by decide) rfl ?_
    refine g_aload_n C dX2_readHunger_17 rfl rfl ?_
    refine g_iconst (v := (1 : Int32)) C dX2_readHunger_18 (by decide) ?_
    refine g_bipush (v := (99 : Int32)) C dX2_readHunger_19 (by decide) ?_
    obtain ⟨q2, hr2, h⟩ := Option.bind_eq_some_iff.mp h
    refine call_X2_118 C dX2_readHunger_21 (by decide) (c_X5_needNumber E hr2) (by decide) rfl ?_
    refine g_if_ne (tgt := 29) C dX2_readHunger_24 (by decide) h (fun h => ?_) (fun h => ?_)
    · refine g_aload_n C dX2_readHunger_29 rfl rfl ?_
      refine g_aload_n C dX2_readHunger_30 rfl rfl ?_
      refine get_X2_99 C dX2_readHunger_31 (by decide) ?_
      refine put_X2_154 C dX2_readHunger_34 hi2 ?_
      refine g_iconst (v := (1 : Int32)) C dX2_readHunger_37 (by decide) ?_
      exact g_zret C R dX2_readHunger_38 (fst_of h) (Or.inr rfl) (snd_of h)
    · refine g_iconst (v := (0 : Int32)) C dX2_readHunger_27 (by decide) ?_
      exact g_zret C R dX2_readHunger_28 (fst_of h) (Or.inl rfl) (snd_of h)
  · refine g_aload_n C dX2_readHunger_7 rfl rfl ?_
    refine g_iconst (v := (5 : Int32)) C dX2_readHunger_8 (by decide) ?_
    obtain ⟨q4, hr4, h⟩ := Option.bind_eq_some_iff.mp h
    refine call_X2_74 C dX2_readHunger_9 (by decide) (c_X5_fail E hr4) (by decide) rfl ?_
    obtain ⟨hz5, h⟩ := of_ite h
    exact g_zret C R dX2_readHunger_12 (fst_of h) (isB_of hz5) (snd_of h)
noncomputable def f_X2_readLaw_51 (i2 : Nat) (x3 : Int32) (M : Mem) : Option (Int32 × Mem) :=
  if x3 = (15 : Int32) then
    let M8 := sR M 8 i2 (upd (M.1 8 i2) 12 (0 : Int32))
    (f_X5_advance M8).bind fun M9 =>
    some ((1 : Int32), M9)
  else
    if x3 = (16 : Int32) then
      let M6 := sR M 8 i2 (upd (M.1 8 i2) 12 (1 : Int32))
      (f_X5_advance M6).bind fun M7 =>
      some ((1 : Int32), M7)
    else
      let M4 := sR M 8 i2 (upd (M.1 8 i2) 12 (2 : Int32))
      (f_X5_advance M4).bind fun M5 =>
      some ((1 : Int32), M5)
noncomputable def f_X2_readLaw (i2 : Nat) (M : Mem) : Option (Int32 × Mem) :=
  if (M.1 33 0 0) = 0 then
    let M1 := sR M 33 0 (upd (M.1 33 0) 0 (1 : Int32))
    (f_X5_advance M1).bind fun M2 =>
    (f_X5_word M2).bind fun r3 =>
    if r3 = (15 : Int32) then
      f_X2_readLaw_51 i2 r3 M2
    else
      if r3 = (16 : Int32) then
        f_X2_readLaw_51 i2 r3 M2
      else
        if r3 = (17 : Int32) then
          f_X2_readLaw_51 i2 r3 M2
        else
          (f_X5_fail (2 : Int32) M2).bind fun q10 =>
          if isB q10.1 = true then some (q10.1, q10.2) else none
  else
    (f_X5_fail (5 : Int32) M).bind fun q12 =>
    if isB q12.1 = true then some (q12.1, q12.2) else none
set_option maxRecDepth 20000 in
set_option maxHeartbeats 2000000 in
theorem b_X2_readLaw_51 {E : wEnv} {Y : YT} (C : Cx E Y cX2_readLaw 4 RX2 2) {q : (Int32 × Mem)} (R : Rx E Y (some .boolean) (some (.int q.1)) q.2) {i2 : Nat} {x3 : Int32} (hi2 : i2 < cnt 8) {M : Mem} (h : f_X2_readLaw_51 i2 x3 M = some q) : G E Y 4 M 51 [(1, .ref (ad E 30 0)), (2, .ref (ad E 8 i2)), (3, .int x3)] [] := by
  unfold f_X2_readLaw_51 at h
  refine g_aload_n C dX2_readLaw_51 rfl rfl ?_
  refine g_iload_n C dX2_readLaw_52 rfl rfl ?_
  refine g_bipush (v := (15 : Int32)) C dX2_readLaw_53 (by decide) ?_
  refine g_icmp_ne (tgt := 62) C dX2_readLaw_55 (by decide) h (fun h => ?_) (fun h => ?_)
  · refine g_iload_n C dX2_readLaw_62 rfl rfl ?_
    refine g_bipush (v := (16 : Int32)) C dX2_readLaw_63 (by decide) ?_
    refine g_icmp_ne (tgt := 72) C dX2_readLaw_65 (by decide) h (fun h => ?_) (fun h => ?_)
    · refine g_iconst (v := (2 : Int32)) C dX2_readLaw_72 (by decide) ?_
      refine put_X2_157 C dX2_readLaw_73 hi2 ?_
      refine g_aload_n C dX2_readLaw_76 rfl rfl ?_
      obtain ⟨M5, hr5, h⟩ := Option.bind_eq_some_iff.mp h
      refine call_X2_81 C dX2_readLaw_77 (by decide) (c_X5_advance E hr5) (by decide) rfl ?_
      refine g_iconst (v := (1 : Int32)) C dX2_readLaw_80 (by decide) ?_
      exact g_zret C R dX2_readLaw_81 (fst_of h) (Or.inr rfl) (snd_of h)
    · refine g_iconst (v := (1 : Int32)) C dX2_readLaw_68 (by decide) ?_
      refine g_goto (tgt := 73) C dX2_readLaw_69 (by decide) ?_
      refine put_X2_157 C dX2_readLaw_73 hi2 ?_
      refine g_aload_n C dX2_readLaw_76 rfl rfl ?_
      obtain ⟨M7, hr7, h⟩ := Option.bind_eq_some_iff.mp h
      refine call_X2_81 C dX2_readLaw_77 (by decide) (c_X5_advance E hr7) (by decide) rfl ?_
      refine g_iconst (v := (1 : Int32)) C dX2_readLaw_80 (by decide) ?_
      exact g_zret C R dX2_readLaw_81 (fst_of h) (Or.inr rfl) (snd_of h)
  · refine g_iconst (v := (0 : Int32)) C dX2_readLaw_58 (by decide) ?_
    refine g_goto (tgt := 73) C dX2_readLaw_59 (by decide) ?_
    refine put_X2_157 C dX2_readLaw_73 hi2 ?_
    refine g_aload_n C dX2_readLaw_76 rfl rfl ?_
    obtain ⟨M9, hr9, h⟩ := Option.bind_eq_some_iff.mp h
    refine call_X2_81 C dX2_readLaw_77 (by decide) (c_X5_advance E hr9) (by decide) rfl ?_
    refine g_iconst (v := (1 : Int32)) C dX2_readLaw_80 (by decide) ?_
    exact g_zret C R dX2_readLaw_81 (fst_of h) (Or.inr rfl) (snd_of h)
set_option maxRecDepth 20000 in
set_option maxHeartbeats 2000000 in
theorem c_X2_readLaw (E : wEnv) {i2 : Nat} {M : Mem} {q : (Int32 × Mem)} (hi2 : i2 < cnt 8) (h : f_X2_readLaw i2 M = some q) : Mt E yX2_readLaw cX2_readLaw 4 (some .boolean) 2 [.ref (ad E 33 0), .ref (ad E 30 0), .ref (ad E 8 i2)] M (some (.int q.1)) q.2 := by
  unfold f_X2_readLaw at h
  refine mt_intro (own := RX2) (lv0 := [(0, .ref (ad E 33 0)), (1, .ref (ad E 30 0)), (2, .ref (ad E 8 i2))]) (by decide) rfl rfl rfl (fun Y C R => ?_)
  refine g_aload_n C dX2_readLaw_0 rfl rfl ?_
  refine get_X2_9 C dX2_readLaw_1 (by decide) ?_
  refine g_if_eq (tgt := 13) C dX2_readLaw_4 (by decide) h (fun h => ?_) (fun h => ?_)
  · refine g_aload_n C dX2_readLaw_13 rfl rfl ?_
    refine g_iconst (v := (1 : Int32)) C dX2_readLaw_14 (by decide) ?_
    refine put_X2_9 C dX2_readLaw_15 (by decide) (Or.inr rfl) ?_
    refine g_aload_n C dX2_readLaw_18 rfl rfl ?_
    obtain ⟨M2, hr2, h⟩ := Option.bind_eq_some_iff.mp h
    refine call_X2_81 C dX2_readLaw_19 (by decide) (c_X5_advance E hr2) (by decide) rfl ?_
    refine g_aload_n C dX2_readLaw_22 rfl rfl ?_
    obtain ⟨r3, hr3, h⟩ := Option.bind_eq_some_iff.mp h
    refine call_X2_41 C dX2_readLaw_23 (by decide) (c_X5_word E hr3) (by decide) rfl ?_
    refine g_istore_n C dX2_readLaw_26 rfl rfl ?_
    refine g_iload_n C dX2_readLaw_27 rfl rfl ?_
    refine g_bipush (v := (15 : Int32)) C dX2_readLaw_28 (by decide) ?_
    refine g_icmp_eq (tgt := 51) C dX2_readLaw_30 (by decide) h (fun h => ?_) (fun h => ?_)
    · exact g_sub (b_X2_readLaw_51 C R hi2 h) ⟨rfl, rfl, rfl, trivial⟩
    · refine g_iload_n C dX2_readLaw_33 rfl rfl ?_
      refine g_bipush (v := (16 : Int32)) C dX2_readLaw_34 (by decide) ?_
      refine g_icmp_eq (tgt := 51) C dX2_readLaw_36 (by decide) h (fun h => ?_) (fun h => ?_)
      · exact g_sub (b_X2_readLaw_51 C R hi2 h) ⟨rfl, rfl, rfl, trivial⟩
      · refine g_iload_n C dX2_readLaw_39 rfl rfl ?_
        refine g_bipush (v := (17 : Int32)) C dX2_readLaw_40 (by decide) ?_
        refine g_icmp_eq (tgt := 51) C dX2_readLaw_42 (by decide) h (fun h => ?_) (fun h => ?_)
        · exact g_sub (b_X2_readLaw_51 C R hi2 h) ⟨rfl, rfl, rfl, trivial⟩
        · refine g_aload_n C dX2_readLaw_45 rfl rfl ?_
          refine g_iconst (v := (2 : Int32)) C dX2_readLaw_46 (by decide) ?_
          obtain ⟨q10, hr10, h⟩ := Option.bind_eq_some_iff.mp h
          refine call_X2_74 C dX2_readLaw_47 (by decide) (c_X5_fail E hr10) (by decide) rfl ?_
          obtain ⟨hz11, h⟩ := of_ite h
          exact g_zret C R dX2_readLaw_50 (fst_of h) (isB_of hz11) (snd_of h)
  · refine g_aload_n C dX2_readLaw_7 rfl rfl ?_
    refine g_iconst (v := (5 : Int32)) C dX2_readLaw_8 (by decide) ?_
    obtain ⟨q12, hr12, h⟩ := Option.bind_eq_some_iff.mp h
    refine call_X2_74 C dX2_readLaw_9 (by decide) (c_X5_fail E hr12) (by decide) rfl ?_
    obtain ⟨hz13, h⟩ := of_ite h
    exact g_zret C R dX2_readLaw_12 (fst_of h) (isB_of hz13) (snd_of h)
noncomputable def f_X2_readPart (i2 : Nat) (M : Mem) : Option (Int32 × Mem) :=
  (f_X5_word M).bind fun r1 =>
  if r1 = (0 : Int32) then
    (f_X2_needNew i2 (0 : Int32) M).bind fun q2 =>
    if q2.1 = 0 then
      some ((0 : Int32), q2.2)
    else
      (f_X2_readJuror i2 q2.2).bind fun q3 =>
      if q3.1 = 0 then
        some ((0 : Int32), q3.2)
      else
        some ((1 : Int32), q3.2)
  else
  if r1 = (1 : Int32) then
    (f_X5_fail (2 : Int32) M).bind fun q5 =>
    if isB q5.1 = true then some (q5.1, q5.2) else none
  else
  if r1 = (2 : Int32) then
    (f_X5_fail (2 : Int32) M).bind fun q8 =>
    if isB q8.1 = true then some (q8.1, q8.2) else none
  else
  if r1 = (3 : Int32) then
    (f_X5_fail (2 : Int32) M).bind fun q11 =>
    if isB q11.1 = true then some (q11.1, q11.2) else none
  else
  if r1 = (4 : Int32) then
    (f_X5_fail (2 : Int32) M).bind fun q14 =>
    if isB q14.1 = true then some (q14.1, q14.2) else none
  else
  if r1 = (5 : Int32) then
    (f_X2_readSways i2 M).bind fun q17 =>
    if isB q17.1 = true then some (q17.1, q17.2) else none
  else
  if r1 = (6 : Int32) then
    (f_X2_needNew i2 (1 : Int32) M).bind fun q20 =>
    if q20.1 = 0 then
      some ((0 : Int32), q20.2)
    else
      (f_X2_readProof i2 q20.2).bind fun q21 =>
      if q21.1 = 0 then
        some ((0 : Int32), q21.2)
      else
        some ((1 : Int32), q21.2)
  else
  if r1 = (7 : Int32) then
    (f_X2_needNew i2 (2 : Int32) M).bind fun q23 =>
    if q23.1 = 0 then
      some ((0 : Int32), q23.2)
    else
      (f_X2_startWeather i2 q23.2).bind fun q24 =>
      if q24.1 = 0 then
        some ((0 : Int32), q24.2)
      else
        some ((1 : Int32), q24.2)
  else
  if r1 = (8 : Int32) then
    (f_X2_readFollows i2 M).bind fun q26 =>
    if isB q26.1 = true then some (q26.1, q26.2) else none
  else
  if r1 = (9 : Int32) then
    (f_X5_fail (2 : Int32) M).bind fun q29 =>
    if isB q29.1 = true then some (q29.1, q29.2) else none
  else
  if r1 = (10 : Int32) then
    (f_X5_fail (2 : Int32) M).bind fun q32 =>
    if isB q32.1 = true then some (q32.1, q32.2) else none
  else
  if r1 = (11 : Int32) then
    (f_X2_needNew i2 (3 : Int32) M).bind fun q35 =>
    if q35.1 = 0 then
      some ((0 : Int32), q35.2)
    else
      (f_X2_readCrop i2 q35.2).bind fun q36 =>
      if q36.1 = 0 then
        some ((0 : Int32), q36.2)
      else
        some ((1 : Int32), q36.2)
  else
  if r1 = (12 : Int32) then
    (f_X5_fail (2 : Int32) M).bind fun q38 =>
    if isB q38.1 = true then some (q38.1, q38.2) else none
  else
  if r1 = (13 : Int32) then
    (f_X2_readHunger i2 M).bind fun q41 =>
    if isB q41.1 = true then some (q41.1, q41.2) else none
  else
  if r1 = (14 : Int32) then
    (f_X2_readLaw i2 M).bind fun q44 =>
    if isB q44.1 = true then some (q44.1, q44.2) else none
  else
    (f_X5_fail (2 : Int32) M).bind fun q47 =>
    if isB q47.1 = true then some (q47.1, q47.2) else none
set_option maxRecDepth 20000 in
set_option maxHeartbeats 2000000 in
theorem c_X2_readPart (E : wEnv) {i2 : Nat} {M : Mem} {q : (Int32 × Mem)} (hi2 : i2 < cnt 8) (h : f_X2_readPart i2 M = some q) : Mt E yX2_readPart cX2_readPart 3 (some .boolean) 5 [.ref (ad E 33 0), .ref (ad E 30 0), .ref (ad E 8 i2)] M (some (.int q.1)) q.2 := by
  unfold f_X2_readPart at h
  refine mt_intro (own := RX2) (lv0 := [(0, .ref (ad E 33 0)), (1, .ref (ad E 30 0)), (2, .ref (ad E 8 i2))]) (by decide) rfl rfl rfl (fun Y C R => ?_)
  refine g_aload_n C dX2_readPart_0 rfl rfl ?_
  obtain ⟨r1, hr1, h⟩ := Option.bind_eq_some_iff.mp h
  refine call_X2_41 C dX2_readPart_1 (by decide) (c_X5_word E hr1) (by decide) rfl ?_
  rcases of_ites h with ⟨c4, h⟩ | ⟨c4, h⟩
  · refine g_tabIn (v := (0 : Int32)) (tgt := 80) C dX2_readPart_4 c4 (by decide) (by decide) rfl (by decide) ?_
    refine g_aload_n C dX2_readPart_80 rfl rfl ?_
    refine g_aload_n C dX2_readPart_81 rfl rfl ?_
    refine g_aload_n C dX2_readPart_82 rfl rfl ?_
    refine g_iconst (v := (0 : Int32)) C dX2_readPart_83 (by decide) ?_
    obtain ⟨q2, hr2, h⟩ := Option.bind_eq_some_iff.mp h
    refine call_X2_45 C dX2_readPart_84 (by decide) (c_X2_needNew E hi2 hr2) (by decide) rfl ?_
    refine g_if_eq (tgt := 103) C dX2_readPart_87 (by decide) h (fun h => ?_) (fun h => ?_)
    · refine g_iconst (v := (0 : Int32)) C dX2_readPart_103 (by decide) ?_
      exact g_zret C R dX2_readPart_104 (fst_of h) (Or.inl rfl) (snd_of h)
    · refine g_aload_n C dX2_readPart_90 rfl rfl ?_
      refine g_aload_n C dX2_readPart_91 rfl rfl ?_
      refine g_aload_n C dX2_readPart_92 rfl rfl ?_
      obtain ⟨q3, hr3, h⟩ := Option.bind_eq_some_iff.mp h
      refine call_X2_49 C dX2_readPart_93 (by decide) (c_X2_readJuror E hi2 hr3) (by decide) rfl ?_
      refine g_if_eq (tgt := 103) C dX2_readPart_96 (by decide) h (fun h => ?_) (fun h => ?_)
      · refine g_iconst (v := (0 : Int32)) C dX2_readPart_103 (by decide) ?_
        exact g_zret C R dX2_readPart_104 (fst_of h) (Or.inl rfl) (snd_of h)
      · refine g_iconst (v := (1 : Int32)) C dX2_readPart_99 (by decide) ?_
        refine g_goto (tgt := 104) C dX2_readPart_100 (by decide) ?_
        exact g_zret C R dX2_readPart_104 (fst_of h) (Or.inr rfl) (snd_of h)
  · rcases of_ites h with ⟨c7, h⟩ | ⟨c7, h⟩
    · refine g_tabIn (v := (1 : Int32)) (tgt := 207) C dX2_readPart_4 c7 (by decide) (by decide) rfl (by decide) ?_
      refine g_aload_n C dX2_readPart_207 rfl rfl ?_
      refine g_iconst (v := (2 : Int32)) C dX2_readPart_208 (by decide) ?_
      obtain ⟨q5, hr5, h⟩ := Option.bind_eq_some_iff.mp h
      refine call_X2_74 C dX2_readPart_209 (by decide) (c_X5_fail E hr5) (by decide) rfl ?_
      obtain ⟨hz6, h⟩ := of_ite h
      exact g_zret C R dX2_readPart_212 (fst_of h) (isB_of hz6) (snd_of h)
    · rcases of_ites h with ⟨c10, h⟩ | ⟨c10, h⟩
      · refine g_tabIn (v := (2 : Int32)) (tgt := 207) C dX2_readPart_4 c10 (by decide) (by decide) rfl (by decide) ?_
        refine g_aload_n C dX2_readPart_207 rfl rfl ?_
        refine g_iconst (v := (2 : Int32)) C dX2_readPart_208 (by decide) ?_
        obtain ⟨q8, hr8, h⟩ := Option.bind_eq_some_iff.mp h
        refine call_X2_74 C dX2_readPart_209 (by decide) (c_X5_fail E hr8) (by decide) rfl ?_
        obtain ⟨hz9, h⟩ := of_ite h
        exact g_zret C R dX2_readPart_212 (fst_of h) (isB_of hz9) (snd_of h)
      · rcases of_ites h with ⟨c13, h⟩ | ⟨c13, h⟩
        · refine g_tabIn (v := (3 : Int32)) (tgt := 207) C dX2_readPart_4 c13 (by decide) (by decide) rfl (by decide) ?_
          refine g_aload_n C dX2_readPart_207 rfl rfl ?_
          refine g_iconst (v := (2 : Int32)) C dX2_readPart_208 (by decide) ?_
          obtain ⟨q11, hr11, h⟩ := Option.bind_eq_some_iff.mp h
          refine call_X2_74 C dX2_readPart_209 (by decide) (c_X5_fail E hr11) (by decide) rfl ?_
          obtain ⟨hz12, h⟩ := of_ite h
          exact g_zret C R dX2_readPart_212 (fst_of h) (isB_of hz12) (snd_of h)
        · rcases of_ites h with ⟨c16, h⟩ | ⟨c16, h⟩
          · refine g_tabIn (v := (4 : Int32)) (tgt := 207) C dX2_readPart_4 c16 (by decide) (by decide) rfl (by decide) ?_
            refine g_aload_n C dX2_readPart_207 rfl rfl ?_
            refine g_iconst (v := (2 : Int32)) C dX2_readPart_208 (by decide) ?_
            obtain ⟨q14, hr14, h⟩ := Option.bind_eq_some_iff.mp h
            refine call_X2_74 C dX2_readPart_209 (by decide) (c_X5_fail E hr14) (by decide) rfl ?_
            obtain ⟨hz15, h⟩ := of_ite h
            exact g_zret C R dX2_readPart_212 (fst_of h) (isB_of hz15) (snd_of h)
          · rcases of_ites h with ⟨c19, h⟩ | ⟨c19, h⟩
            · refine g_tabIn (v := (5 : Int32)) (tgt := 105) C dX2_readPart_4 c19 (by decide) (by decide) rfl (by decide) ?_
              refine g_aload_n C dX2_readPart_105 rfl rfl ?_
              refine g_aload_n C dX2_readPart_106 rfl rfl ?_
              refine g_aload_n C dX2_readPart_107 rfl rfl ?_
              obtain ⟨q17, hr17, h⟩ := Option.bind_eq_some_iff.mp h
              refine call_X2_52 C dX2_readPart_108 (by decide) (c_X2_readSways E hi2 hr17) (by decide) rfl ?_
              obtain ⟨hz18, h⟩ := of_ite h
              exact g_zret C R dX2_readPart_111 (fst_of h) (isB_of hz18) (snd_of h)
            · rcases of_ites h with ⟨c22, h⟩ | ⟨c22, h⟩
              · refine g_tabIn (v := (6 : Int32)) (tgt := 112) C dX2_readPart_4 c22 (by decide) (by decide) rfl (by decide) ?_
                refine g_aload_n C dX2_readPart_112 rfl rfl ?_
                refine g_aload_n C dX2_readPart_113 rfl rfl ?_
                refine g_aload_n C dX2_readPart_114 rfl rfl ?_
                refine g_iconst (v := (1 : Int32)) C dX2_readPart_115 (by decide) ?_
                obtain ⟨q20, hr20, h⟩ := Option.bind_eq_some_iff.mp h
                refine call_X2_45 C dX2_readPart_116 (by decide) (c_X2_needNew E hi2 hr20) (by decide) rfl ?_
                refine g_if_eq (tgt := 135) C dX2_readPart_119 (by decide) h (fun h => ?_) (fun h => ?_)
                · refine g_iconst (v := (0 : Int32)) C dX2_readPart_135 (by decide) ?_
                  exact g_zret C R dX2_readPart_136 (fst_of h) (Or.inl rfl) (snd_of h)
                · refine g_aload_n C dX2_readPart_122 rfl rfl ?_
                  refine g_aload_n C dX2_readPart_123 rfl rfl ?_
                  refine g_aload_n C dX2_readPart_124 rfl rfl ?_
                  obtain ⟨q21, hr21, h⟩ := Option.bind_eq_some_iff.mp h
                  refine call_X2_55 C dX2_readPart_125 (by decide) (c_X2_readProof E hi2 hr21) (by decide) rfl ?_
                  refine g_if_eq (tgt := 135) C dX2_readPart_128 (by decide) h (fun h => ?_) (fun h => ?_)
                  · refine g_iconst (v := (0 : Int32)) C dX2_readPart_135 (by decide) ?_
                    exact g_zret C R dX2_readPart_136 (fst_of h) (Or.inl rfl) (snd_of h)
                  · refine g_iconst (v := (1 : Int32)) C dX2_readPart_131 (by decide) ?_
                    refine g_goto (tgt := 136) C dX2_readPart_132 (by decide) ?_
                    exact g_zret C R dX2_readPart_136 (fst_of h) (Or.inr rfl) (snd_of h)
              · rcases of_ites h with ⟨c25, h⟩ | ⟨c25, h⟩
                · refine g_tabIn (v := (7 : Int32)) (tgt := 137) C dX2_readPart_4 c25 (by decide) (by decide) rfl (by decide) ?_
                  refine g_aload_n C dX2_readPart_137 rfl rfl ?_
                  refine g_aload_n C dX2_readPart_138 rfl rfl ?_
                  refine g_aload_n C dX2_readPart_139 rfl rfl ?_
                  refine g_iconst (v := (2 : Int32)) C dX2_readPart_140 (by decide) ?_
                  obtain ⟨q23, hr23, h⟩ := Option.bind_eq_some_iff.mp h
                  refine call_X2_45 C dX2_readPart_141 (by decide) (c_X2_needNew E hi2 hr23) (by decide) rfl ?_
                  refine g_if_eq (tgt := 159) C dX2_readPart_144 (by decide) h (fun h => ?_) (fun h => ?_)
                  · refine g_iconst (v := (0 : Int32)) C dX2_readPart_159 (by decide) ?_
                    exact g_zret C R dX2_readPart_160 (fst_of h) (Or.inl rfl) (snd_of h)
                  · refine g_aload_n C dX2_readPart_147 rfl rfl ?_
                    refine g_aload_n C dX2_readPart_148 rfl rfl ?_
                    obtain ⟨q24, hr24, h⟩ := Option.bind_eq_some_iff.mp h
                    refine call_X2_58 C dX2_readPart_149 (by decide) (c_X2_startWeather E hi2 hr24) (by decide) rfl ?_
                    refine g_if_eq (tgt := 159) C dX2_readPart_152 (by decide) h (fun h => ?_) (fun h => ?_)
                    · refine g_iconst (v := (0 : Int32)) C dX2_readPart_159 (by decide) ?_
                      exact g_zret C R dX2_readPart_160 (fst_of h) (Or.inl rfl) (snd_of h)
                    · refine g_iconst (v := (1 : Int32)) C dX2_readPart_155 (by decide) ?_
                      refine g_goto (tgt := 160) C dX2_readPart_156 (by decide) ?_
                      exact g_zret C R dX2_readPart_160 (fst_of h) (Or.inr rfl) (snd_of h)
                · rcases of_ites h with ⟨c28, h⟩ | ⟨c28, h⟩
                  · refine g_tabIn (v := (8 : Int32)) (tgt := 161) C dX2_readPart_4 c28 (by decide) (by decide) rfl (by decide) ?_
                    refine g_aload_n C dX2_readPart_161 rfl rfl ?_
                    refine g_aload_n C dX2_readPart_162 rfl rfl ?_
                    refine g_aload_n C dX2_readPart_163 rfl rfl ?_
                    obtain ⟨q26, hr26, h⟩ := Option.bind_eq_some_iff.mp h
                    refine call_X2_62 C dX2_readPart_164 (by decide) (c_X2_readFollows E hi2 hr26) (by decide) rfl ?_
                    obtain ⟨hz27, h⟩ := of_ite h
                    exact g_zret C R dX2_readPart_167 (fst_of h) (isB_of hz27) (snd_of h)
                  · rcases of_ites h with ⟨c31, h⟩ | ⟨c31, h⟩
                    · refine g_tabIn (v := (9 : Int32)) (tgt := 207) C dX2_readPart_4 c31 (by decide) (by decide) rfl (by decide) ?_
                      refine g_aload_n C dX2_readPart_207 rfl rfl ?_
                      refine g_iconst (v := (2 : Int32)) C dX2_readPart_208 (by decide) ?_
                      obtain ⟨q29, hr29, h⟩ := Option.bind_eq_some_iff.mp h
                      refine call_X2_74 C dX2_readPart_209 (by decide) (c_X5_fail E hr29) (by decide) rfl ?_
                      obtain ⟨hz30, h⟩ := of_ite h
                      exact g_zret C R dX2_readPart_212 (fst_of h) (isB_of hz30) (snd_of h)
                    · rcases of_ites h with ⟨c34, h⟩ | ⟨c34, h⟩
                      · refine g_tabIn (v := (10 : Int32)) (tgt := 207) C dX2_readPart_4 c34 (by decide) (by decide) rfl (by decide) ?_
                        refine g_aload_n C dX2_readPart_207 rfl rfl ?_
                        refine g_iconst (v := (2 : Int32)) C dX2_readPart_208 (by decide) ?_
                        obtain ⟨q32, hr32, h⟩ := Option.bind_eq_some_iff.mp h
                        refine call_X2_74 C dX2_readPart_209 (by decide) (c_X5_fail E hr32) (by decide) rfl ?_
                        obtain ⟨hz33, h⟩ := of_ite h
                        exact g_zret C R dX2_readPart_212 (fst_of h) (isB_of hz33) (snd_of h)
                      · rcases of_ites h with ⟨c37, h⟩ | ⟨c37, h⟩
                        · refine g_tabIn (v := (11 : Int32)) (tgt := 168) C dX2_readPart_4 c37 (by decide) (by decide) rfl (by decide) ?_
                          refine g_aload_n C dX2_readPart_168 rfl rfl ?_
                          refine g_aload_n C dX2_readPart_169 rfl rfl ?_
                          refine g_aload_n C dX2_readPart_170 rfl rfl ?_
                          refine g_iconst (v := (3 : Int32)) C dX2_readPart_171 (by decide) ?_
                          obtain ⟨q35, hr35, h⟩ := Option.bind_eq_some_iff.mp h
                          refine call_X2_45 C dX2_readPart_172 (by decide) (c_X2_needNew E hi2 hr35) (by decide) rfl ?_
                          refine g_if_eq (tgt := 191) C dX2_readPart_175 (by decide) h (fun h => ?_) (fun h => ?_)
                          · refine g_iconst (v := (0 : Int32)) C dX2_readPart_191 (by decide) ?_
                            exact g_zret C R dX2_readPart_192 (fst_of h) (Or.inl rfl) (snd_of h)
                          · refine g_aload_n C dX2_readPart_178 rfl rfl ?_
                            refine g_aload_n C dX2_readPart_179 rfl rfl ?_
                            refine g_aload_n C dX2_readPart_180 rfl rfl ?_
                            obtain ⟨q36, hr36, h⟩ := Option.bind_eq_some_iff.mp h
                            refine call_X2_65 C dX2_readPart_181 (by decide) (c_X2_readCrop E hi2 hr36) (by decide) rfl ?_
                            refine g_if_eq (tgt := 191) C dX2_readPart_184 (by decide) h (fun h => ?_) (fun h => ?_)
                            · refine g_iconst (v := (0 : Int32)) C dX2_readPart_191 (by decide) ?_
                              exact g_zret C R dX2_readPart_192 (fst_of h) (Or.inl rfl) (snd_of h)
                            · refine g_iconst (v := (1 : Int32)) C dX2_readPart_187 (by decide) ?_
                              refine g_goto (tgt := 192) C dX2_readPart_188 (by decide) ?_
                              exact g_zret C R dX2_readPart_192 (fst_of h) (Or.inr rfl) (snd_of h)
                        · rcases of_ites h with ⟨c40, h⟩ | ⟨c40, h⟩
                          · refine g_tabIn (v := (12 : Int32)) (tgt := 207) C dX2_readPart_4 c40 (by decide) (by decide) rfl (by decide) ?_
                            refine g_aload_n C dX2_readPart_207 rfl rfl ?_
                            refine g_iconst (v := (2 : Int32)) C dX2_readPart_208 (by decide) ?_
                            obtain ⟨q38, hr38, h⟩ := Option.bind_eq_some_iff.mp h
                            refine call_X2_74 C dX2_readPart_209 (by decide) (c_X5_fail E hr38) (by decide) rfl ?_
                            obtain ⟨hz39, h⟩ := of_ite h
                            exact g_zret C R dX2_readPart_212 (fst_of h) (isB_of hz39) (snd_of h)
                          · rcases of_ites h with ⟨c43, h⟩ | ⟨c43, h⟩
                            · refine g_tabIn (v := (13 : Int32)) (tgt := 193) C dX2_readPart_4 c43 (by decide) (by decide) rfl (by decide) ?_
                              refine g_aload_n C dX2_readPart_193 rfl rfl ?_
                              refine g_aload_n C dX2_readPart_194 rfl rfl ?_
                              refine g_aload_n C dX2_readPart_195 rfl rfl ?_
                              obtain ⟨q41, hr41, h⟩ := Option.bind_eq_some_iff.mp h
                              refine call_X2_68 C dX2_readPart_196 (by decide) (c_X2_readHunger E hi2 hr41) (by decide) rfl ?_
                              obtain ⟨hz42, h⟩ := of_ite h
                              exact g_zret C R dX2_readPart_199 (fst_of h) (isB_of hz42) (snd_of h)
                            · rcases of_ites h with ⟨c46, h⟩ | ⟨c46, h⟩
                              · refine g_tabIn (v := (14 : Int32)) (tgt := 200) C dX2_readPart_4 c46 (by decide) (by decide) rfl (by decide) ?_
                                refine g_aload_n C dX2_readPart_200 rfl rfl ?_
                                refine g_aload_n C dX2_readPart_201 rfl rfl ?_
                                refine g_aload_n C dX2_readPart_202 rfl rfl ?_
                                obtain ⟨q44, hr44, h⟩ := Option.bind_eq_some_iff.mp h
                                refine call_X2_71 C dX2_readPart_203 (by decide) (c_X2_readLaw E hi2 hr44) (by decide) rfl ?_
                                obtain ⟨hz45, h⟩ := of_ite h
                                exact g_zret C R dX2_readPart_206 (fst_of h) (isB_of hz45) (snd_of h)
                              · refine g_tabOut (n := 15) (tgt := 207) C dX2_readPart_4 ⟨c4, c7, c10, c13, c16, c19, c22, c25, c28, c31, c34, c37, c40, c43, c46, trivial⟩ (by decide) (by decide) ?_
                                refine g_aload_n C dX2_readPart_207 rfl rfl ?_
                                refine g_iconst (v := (2 : Int32)) C dX2_readPart_208 (by decide) ?_
                                obtain ⟨q47, hr47, h⟩ := Option.bind_eq_some_iff.mp h
                                refine call_X2_74 C dX2_readPart_209 (by decide) (c_X5_fail E hr47) (by decide) rfl ?_
                                obtain ⟨hz48, h⟩ := of_ite h
                                exact g_zret C R dX2_readPart_212 (fst_of h) (isB_of hz48) (snd_of h)
noncomputable def f_X5_needStop (M : Mem) : Option (Int32 × Mem) :=
  if (M.1 30 0 6) = (3 : Int32) then
    if (M.1 30 0 7) = (59 : Int32) then
      (f_X5_advance M).bind fun M3 =>
      some ((1 : Int32), M3)
    else
      (f_X5_fail (2 : Int32) M).bind fun q4 =>
      if isB q4.1 = true then some (q4.1, q4.2) else none
  else
    (f_X5_fail (2 : Int32) M).bind fun q1 =>
    if isB q1.1 = true then some (q1.1, q1.2) else none
set_option maxRecDepth 20000 in
set_option maxHeartbeats 2000000 in
theorem c_X5_needStop (E : wEnv) {M : Mem} {q : (Int32 × Mem)} (h : f_X5_needStop M = some q) : Mt E yX5_needStop cX5_needStop 1 (some .boolean) 2 [.ref (ad E 30 0)] M (some (.int q.1)) q.2 := by
  unfold f_X5_needStop at h
  refine mt_intro (own := RX5) (lv0 := [(0, .ref (ad E 30 0))]) (by decide) rfl rfl rfl (fun Y C R => ?_)
  refine g_aload_n C dX5_needStop_0 rfl rfl ?_
  refine get_X5_32 C dX5_needStop_1 (by decide) ?_
  refine g_iconst (v := (3 : Int32)) C dX5_needStop_4 (by decide) ?_
  refine g_icmp_ne (tgt := 17) C dX5_needStop_5 (by decide) h (fun h => ?_) (fun h => ?_)
  · refine g_aload_n C dX5_needStop_17 rfl rfl ?_
    refine g_iconst (v := (2 : Int32)) C dX5_needStop_18 (by decide) ?_
    obtain ⟨q1, hr1, h⟩ := Option.bind_eq_some_iff.mp h
    refine call_X5_83 C dX5_needStop_19 (by decide) (c_X5_fail E hr1) (by decide) rfl ?_
    obtain ⟨hz2, h⟩ := of_ite h
    exact g_zret C R dX5_needStop_22 (fst_of h) (isB_of hz2) (snd_of h)
  · refine g_aload_n C dX5_needStop_8 rfl rfl ?_
    refine get_X5_35 C dX5_needStop_9 (by decide) ?_
    refine g_bipush (v := (59 : Int32)) C dX5_needStop_12 (by decide) ?_
    refine g_icmp_eq (tgt := 23) C dX5_needStop_14 (by decide) h (fun h => ?_) (fun h => ?_)
    · refine g_aload_n C dX5_needStop_23 rfl rfl ?_
      obtain ⟨M3, hr3, h⟩ := Option.bind_eq_some_iff.mp h
      refine call_X5_64 C dX5_needStop_24 (by decide) (c_X5_advance E hr3) (by decide) rfl ?_
      refine g_iconst (v := (1 : Int32)) C dX5_needStop_27 (by decide) ?_
      exact g_zret C R dX5_needStop_28 (fst_of h) (Or.inr rfl) (snd_of h)
    · refine g_aload_n C dX5_needStop_17 rfl rfl ?_
      refine g_iconst (v := (2 : Int32)) C dX5_needStop_18 (by decide) ?_
      obtain ⟨q4, hr4, h⟩ := Option.bind_eq_some_iff.mp h
      refine call_X5_83 C dX5_needStop_19 (by decide) (c_X5_fail E hr4) (by decide) rfl ?_
      obtain ⟨hz5, h⟩ := of_ite h
      exact g_zret C R dX5_needStop_22 (fst_of h) (isB_of hz5) (snd_of h)
noncomputable def f_X2_readCourt_17 (x2 : Int32) (i3 : Nat) : Nat → Int32 → Mem → Option Mem
  | 0, _, _ => none
  | n + 1, x4, M =>
  if x2 < x4 then
    some M
  else
    if (M.1 30 0 10) = 0 then
      if (M.1 30 0 6) = 0 then
        some M
      else
        (f_X2_readPart i3 M).bind fun q4 =>
        if q4.1 = 0 then
          f_X2_readCourt_17 x2 i3 n (x4 + (1 : Int32)) q4.2
        else
          (f_X5_needStop q4.2).bind fun q5 =>
          f_X2_readCourt_17 x2 i3 n (x4 + (1 : Int32)) q5.2
    else
      some M
noncomputable def f_X2_readCourt (x2 : Int32) (i3 : Nat) (M : Mem) : Option Mem :=
  (f_X1_clear i3 M).bind fun M1 =>
  let M2 := sR M1 33 0 (upd (M1.1 33 0) 0 (0 : Int32))
  (f_X5_begin x2 M2).bind fun M3 =>
  f_X2_readCourt_17 x2 i3 FU (0 : Int32) M3
set_option maxRecDepth 20000 in
set_option maxHeartbeats 2000000 in
theorem b_X2_readCourt_17 {E : wEnv} {Y : YT} (C : Cx E Y cX2_readCourt 5 RX2 6) {q : Mem} (R : Rx E Y none none q) {x2 : Int32} {i3 : Nat} (hi3 : i3 < cnt 8) (n : Nat) : ∀ {x4 : Int32} {M : Mem} (_ : f_X2_readCourt_17 x2 i3 n x4 M = some q), G E Y 5 M 17 [(0, .ref (ad E 33 0)), (1, .ref (ad E 30 0)), (2, .int x2), (3, .ref (ad E 8 i3)), (4, .int x4)] [] := by
  induction n with
  | zero =>
    intro x4 M h
    cases (show none = some q from h)
  | succ n ih =>
    intro x4 M h
    rw [f_X2_readCourt_17] at h
    refine g_iload C dX2_readCourt_17 rfl ?_
    refine g_iload_n C dX2_readCourt_19 rfl rfl ?_
    refine g_icmp_gt (tgt := 57) C dX2_readCourt_20 (by decide) h (fun h => ?_) (fun h => ?_)
    · exact g_vret C R dX2_readCourt_57 (Option.some.inj h)
    · refine g_aload_n C dX2_readCourt_23 rfl rfl ?_
      refine get_X2_26 C dX2_readCourt_24 (by decide) ?_
      refine g_if_ne (tgt := 57) C dX2_readCourt_27 (by decide) h (fun h => ?_) (fun h => ?_)
      · exact g_vret C R dX2_readCourt_57 (Option.some.inj h)
      · refine g_aload_n C dX2_readCourt_30 rfl rfl ?_
        refine get_X2_30 C dX2_readCourt_31 (by decide) ?_
        refine g_if_eq (tgt := 57) C dX2_readCourt_34 (by decide) h (fun h => ?_) (fun h => ?_)
        · exact g_vret C R dX2_readCourt_57 (Option.some.inj h)
        · refine g_aload_n C dX2_readCourt_37 rfl rfl ?_
          refine g_aload_n C dX2_readCourt_38 rfl rfl ?_
          refine g_aload_n C dX2_readCourt_39 rfl rfl ?_
          obtain ⟨q4, hr4, h⟩ := Option.bind_eq_some_iff.mp h
          refine call_X2_33 C dX2_readCourt_40 (by decide) (c_X2_readPart E hi3 hr4) (by decide) rfl ?_
          refine g_if_eq (tgt := 51) C dX2_readCourt_43 (by decide) h (fun h => ?_) (fun h => ?_)
          · refine g_iinc (w := (1 : Int32)) C dX2_readCourt_51 rfl (by decide) rfl ?_
            refine g_goto (tgt := 17) C dX2_readCourt_54 (by decide) ?_
            exact g_sub (ih h) ⟨rfl, rfl, rfl, rfl, rfl, trivial⟩
          · refine g_aload_n C dX2_readCourt_46 rfl rfl ?_
            obtain ⟨q5, hr5, h⟩ := Option.bind_eq_some_iff.mp h
            refine call_X2_37 C dX2_readCourt_47 (by decide) (c_X5_needStop E hr5) (by decide) rfl ?_
            refine g_pop C dX2_readCourt_50 rfl ?_
            refine g_iinc (w := (1 : Int32)) C dX2_readCourt_51 rfl (by decide) rfl ?_
            refine g_goto (tgt := 17) C dX2_readCourt_54 (by decide) ?_
            exact g_sub (ih h) ⟨rfl, rfl, rfl, rfl, rfl, trivial⟩
set_option maxRecDepth 20000 in
set_option maxHeartbeats 2000000 in
theorem c_X2_readCourt (E : wEnv) {x2 : Int32} {i3 : Nat} {M : Mem} {q : Mem} (hi3 : i3 < cnt 8) (h : f_X2_readCourt x2 i3 M = some q) : Mt E yX2_readCourt cX2_readCourt 5 none 6 [.ref (ad E 33 0), .ref (ad E 30 0), .int x2, .ref (ad E 8 i3)] M none q := by
  unfold f_X2_readCourt at h
  refine mt_intro (own := RX2) (lv0 := [(0, .ref (ad E 33 0)), (1, .ref (ad E 30 0)), (2, .int x2), (3, .ref (ad E 8 i3))]) (by decide) rfl rfl rfl (fun Y C R => ?_)
  refine g_aload_n C dX2_readCourt_0 rfl rfl ?_
  obtain ⟨M1, hr1, h⟩ := Option.bind_eq_some_iff.mp h
  refine call_X2_15 C dX2_readCourt_1 hi3 (c_X1_clear E hi3 hr1) (by decide) rfl ?_
  refine g_aload_n C dX2_readCourt_4 rfl rfl ?_
  refine g_iconst (v := (0 : Int32)) C dX2_readCourt_5 (by decide) ?_
  refine put_X2_9 C dX2_readCourt_6 (by decide) (Or.inl rfl) ?_
  refine g_aload_n C dX2_readCourt_9 rfl rfl ?_
  refine g_iload_n C dX2_readCourt_10 rfl rfl ?_
  obtain ⟨M3, hr3, h⟩ := Option.bind_eq_some_iff.mp h
  refine call_X2_20 C dX2_readCourt_11 (by decide) (c_X5_begin E hr3) (by decide) rfl ?_
  refine g_iconst (v := (0 : Int32)) C dX2_readCourt_14 (by decide) ?_
  refine g_istore C dX2_readCourt_15 rfl ?_
  exact g_sub (b_X2_readCourt_17 C R hi3 _ h) ⟨rfl, rfl, rfl, rfl, rfl, trivial⟩
noncomputable def f_X3_openDay_9 (i0 : Nat) (i1 : Nat) (x2 : Int32) : Nat → Int32 → Mem → Option Mem
  | 0, _, _ => none
  | n + 1, x3, M =>
  if x3 < x2 then
    if inb x3 10 = true then
     if inb x3 10 = true then
      let M6 := sR M 21 i0 (upd (M.1 21 i0) x3.toNatClampNeg (M.1 11 i1 x3.toNatClampNeg))
      f_X3_openDay_9 i0 i1 x2 n (x3 + (1 : Int32)) M6
     else none
    else none
  else
    let M1 := sR M 20 i0 (upd (M.1 20 i0) 2 (((1 : Int32) <<< (x2 &&& 31)) - (1 : Int32)))
    let M2 := sR M1 20 i0 (upd (M1.1 20 i0) 3 (0 : Int32))
    let M3 := sR M2 20 i0 (upd (M2.1 20 i0) 4 (0 : Int32))
    some M3
noncomputable def f_X3_openDay (i0 : Nat) (i1 : Nat) (M : Mem) : Option Mem :=
  f_X3_openDay_9 i0 i1 (M.1 9 i1 0) FU (0 : Int32) M
set_option maxRecDepth 20000 in
set_option maxHeartbeats 2000000 in
theorem b_X3_openDay_9 {E : wEnv} {Y : YT} (C : Cx E Y cX3_openDay 4 RX3 0) {q : Mem} (R : Rx E Y none none q) {i0 : Nat} {i1 : Nat} {x2 : Int32} (hi0 : i0 < cnt 20) (hi1 : i1 < cnt 8) (n : Nat) : ∀ {x3 : Int32} {M : Mem} (_ : f_X3_openDay_9 i0 i1 x2 n x3 M = some q), G E Y 4 M 9 [(0, .ref (ad E 20 i0)), (1, .ref (ad E 8 i1)), (2, .int x2), (3, .int x3)] [] := by
  induction n with
  | zero =>
    intro x3 M h
    cases (show none = some q from h)
  | succ n ih =>
    intro x3 M h
    rw [f_X3_openDay_9] at h
    refine g_iload_n C dX3_openDay_9 rfl rfl ?_
    refine g_iload_n C dX3_openDay_10 rfl rfl ?_
    refine g_icmp_ge (tgt := 32) C dX3_openDay_11 (by decide) h (fun h => ?_) (fun h => ?_)
    · refine g_aload_n C dX3_openDay_32 rfl rfl ?_
      refine g_iconst (v := (1 : Int32)) C dX3_openDay_33 (by decide) ?_
      refine g_iload_n C dX3_openDay_34 rfl rfl ?_
      refine g_ishl C dX3_openDay_35 ?_
      refine g_iconst (v := (1 : Int32)) C dX3_openDay_36 (by decide) ?_
      refine g_isub C dX3_openDay_37 ?_
      refine put_X3_18 C dX3_openDay_38 hi0 ?_
      refine g_aload_n C dX3_openDay_41 rfl rfl ?_
      refine g_iconst (v := (0 : Int32)) C dX3_openDay_42 (by decide) ?_
      refine put_X3_22 C dX3_openDay_43 hi0 ?_
      refine g_aload_n C dX3_openDay_46 rfl rfl ?_
      refine g_iconst (v := (0 : Int32)) C dX3_openDay_47 (by decide) ?_
      refine put_X3_25 C dX3_openDay_48 hi0 ?_
      exact g_vret C R dX3_openDay_51 (Option.some.inj h)
    · refine g_aload_n C dX3_openDay_14 rfl rfl ?_
      refine get_X3_9 C dX3_openDay_15 hi0 ?_
      refine g_iload_n C dX3_openDay_18 rfl rfl ?_
      refine g_aload_n C dX3_openDay_19 rfl rfl ?_
      refine get_X3_52 C dX3_openDay_20 hi1 ?_
      refine g_iload_n C dX3_openDay_23 rfl rfl ?_
      obtain ⟨hb4, h⟩ := of_ite h
      refine ld_11 (j := _) C dX3_openDay_24 (Nat.lt_of_lt_of_le hi1 (by decide : cnt 8 ≤ cnt 11)) hb4 rfl ?_
      obtain ⟨hb5, h⟩ := of_ite h
      refine st_21 (j := _) C dX3_openDay_25 (Nat.lt_of_lt_of_le hi0 (by decide : cnt 20 ≤ cnt 21)) hb5 rfl ?_
      refine g_iinc (w := (1 : Int32)) C dX3_openDay_26 rfl (by decide) rfl ?_
      refine g_goto (tgt := 9) C dX3_openDay_29 (by decide) ?_
      exact g_sub (ih h) ⟨rfl, rfl, rfl, rfl, trivial⟩
set_option maxRecDepth 20000 in
set_option maxHeartbeats 2000000 in
theorem c_X3_openDay (E : wEnv) {i0 : Nat} {i1 : Nat} {M : Mem} {q : Mem} (hi0 : i0 < cnt 20) (hi1 : i1 < cnt 8) (h : f_X3_openDay i0 i1 M = some q) : Mt E yX3_openDay cX3_openDay 4 none 0 [.ref (ad E 20 i0), .ref (ad E 8 i1)] M none q := by
  unfold f_X3_openDay at h
  refine mt_intro (own := RX3) (lv0 := [(0, .ref (ad E 20 i0)), (1, .ref (ad E 8 i1))]) (by decide) rfl rfl rfl (fun Y C R => ?_)
  refine g_aload_n C dX3_openDay_0 rfl rfl ?_
  refine get_X3_47 C dX3_openDay_1 hi1 ?_
  refine g_iconst (v := (0 : Int32)) C dX3_openDay_4 (by decide) ?_
  refine ld_9 (j := 0) C dX3_openDay_5 (Nat.lt_of_lt_of_le hi1 (by decide : cnt 8 ≤ cnt 9)) (by decide) rfl ?_
  refine g_istore_n C dX3_openDay_6 rfl rfl ?_
  refine g_iconst (v := (0 : Int32)) C dX3_openDay_7 (by decide) ?_
  refine g_istore_n C dX3_openDay_8 rfl rfl ?_
  exact g_sub (b_X3_openDay_9 C R hi0 hi1 _ h) ⟨rfl, rfl, rfl, rfl, trivial⟩
noncomputable def f_X3_openCourt_2 (i0 : Nat) (i1 : Nat) : Nat → Int32 → Mem → Option Mem
  | 0, _, _ => none
  | n + 1, x2, M =>
  if x2 < (4 : Int32) then
    if inb x2 4 = true then
     let M6 := sR M 22 i0 (upd (M.1 22 i0) x2.toNatClampNeg (0 : Int32))
     f_X3_openCourt_2 i0 i1 n (x2 + (1 : Int32)) M6
    else none
  else
    let M1 := sR M 20 i0 (upd (M.1 20 i0) 5 (0 : Int32))
    let M2 := sR M1 20 i0 (upd (M1.1 20 i0) 6 (0 : Int32))
    let M3 := sR M2 20 i0 (upd (M2.1 20 i0) 7 (0 : Int32))
    (f_X3_openDay i0 i1 M3).bind fun M4 =>
    some M4
noncomputable def f_X3_openCourt (i0 : Nat) (i1 : Nat) (M : Mem) : Option Mem :=
  f_X3_openCourt_2 i0 i1 FU (0 : Int32) M
set_option maxRecDepth 20000 in
set_option maxHeartbeats 2000000 in
theorem b_X3_openCourt_2 {E : wEnv} {Y : YT} (C : Cx E Y cX3_openCourt 3 RX3 1) {q : Mem} (R : Rx E Y none none q) {i0 : Nat} {i1 : Nat} (hi0 : i0 < cnt 20) (hi1 : i1 < cnt 8) (n : Nat) : ∀ {x2 : Int32} {M : Mem} (_ : f_X3_openCourt_2 i0 i1 n x2 M = some q), G E Y 3 M 2 [(0, .ref (ad E 20 i0)), (1, .ref (ad E 8 i1)), (2, .int x2)] [] := by
  induction n with
  | zero =>
    intro x2 M h
    cases (show none = some q from h)
  | succ n ih =>
    intro x2 M h
    rw [f_X3_openCourt_2] at h
    refine g_iload_n C dX3_openCourt_2 rfl rfl ?_
    refine g_aload_n C dX3_openCourt_3 rfl rfl ?_
    refine get_X3_15 C dX3_openCourt_4 hi0 ?_
    refine g_alen (t := 0) (v := (4 : Int32)) C dX3_openCourt_7 (cE_22 E _ _) rfl (Nat.lt_of_lt_of_le hi0 (by decide : cnt 20 ≤ cnt 22)) rfl ?_
    refine g_icmp_ge (tgt := 24) C dX3_openCourt_8 (by decide) h (fun h => ?_) (fun h => ?_)
    · refine g_aload_n C dX3_openCourt_24 rfl rfl ?_
      refine g_iconst (v := (0 : Int32)) C dX3_openCourt_25 (by decide) ?_
      refine put_X3_28 C dX3_openCourt_26 hi0 ?_
      refine g_aload_n C dX3_openCourt_29 rfl rfl ?_
      refine g_iconst (v := (0 : Int32)) C dX3_openCourt_30 (by decide) ?_
      refine put_X3_31 C dX3_openCourt_31 hi0 ?_
      refine g_aload_n C dX3_openCourt_34 rfl rfl ?_
      refine g_iconst (v := (0 : Int32)) C dX3_openCourt_35 (by decide) ?_
      refine put_X3_34 C dX3_openCourt_36 hi0 ?_
      refine g_aload_n C dX3_openCourt_39 rfl rfl ?_
      refine g_aload_n C dX3_openCourt_40 rfl rfl ?_
      obtain ⟨M4, hr4, h⟩ := Option.bind_eq_some_iff.mp h
      refine call_X3_43 C dX3_openCourt_41 hi0 (c_X3_openDay E hi0 hi1 hr4) (by decide) rfl ?_
      exact g_vret C R dX3_openCourt_44 (Option.some.inj h)
    · refine g_aload_n C dX3_openCourt_11 rfl rfl ?_
      refine get_X3_15 C dX3_openCourt_12 hi0 ?_
      refine g_iload_n C dX3_openCourt_15 rfl rfl ?_
      refine g_iconst (v := (0 : Int32)) C dX3_openCourt_16 (by decide) ?_
      obtain ⟨hb5, h⟩ := of_ite h
      refine st_22 (j := _) C dX3_openCourt_17 (Nat.lt_of_lt_of_le hi0 (by decide : cnt 20 ≤ cnt 22)) hb5 rfl ?_
      refine g_iinc (w := (1 : Int32)) C dX3_openCourt_18 rfl (by decide) rfl ?_
      refine g_goto (tgt := 2) C dX3_openCourt_21 (by decide) ?_
      exact g_sub (ih h) ⟨rfl, rfl, rfl, trivial⟩
set_option maxRecDepth 20000 in
set_option maxHeartbeats 2000000 in
theorem c_X3_openCourt (E : wEnv) {i0 : Nat} {i1 : Nat} {M : Mem} {q : Mem} (hi0 : i0 < cnt 20) (hi1 : i1 < cnt 8) (h : f_X3_openCourt i0 i1 M = some q) : Mt E yX3_openCourt cX3_openCourt 3 none 1 [.ref (ad E 20 i0), .ref (ad E 8 i1)] M none q := by
  unfold f_X3_openCourt at h
  refine mt_intro (own := RX3) (lv0 := [(0, .ref (ad E 20 i0)), (1, .ref (ad E 8 i1))]) (by decide) rfl rfl rfl (fun Y C R => ?_)
  refine g_iconst (v := (0 : Int32)) C dX3_openCourt_0 (by decide) ?_
  refine g_istore_n C dX3_openCourt_1 rfl rfl ?_
  exact g_sub (b_X3_openCourt_2 C R hi0 hi1 _ h) ⟨rfl, rfl, rfl, trivial⟩
noncomputable def f_X3_closeDay_20 (i0 : Nat) (i1 : Nat) (x2 : Int32) : Nat → Int32 → Mem → Option (Int32 × Mem)
  | 0, _, _ => none
  | n + 1, x3, M =>
  if x3 < (M.1 9 i1 3) then
    if inb x3 4 = true then
     (f_X1_growthOf i1 x3 (M.1 20 i0 6) M).bind fun r9 =>
     if inb x3 4 = true then
      let M11 := sR M 22 i0 (upd (M.1 22 i0) x3.toNatClampNeg ((M.1 22 i0 x3.toNatClampNeg) + r9))
      f_X3_closeDay_20 i0 i1 x2 n (x3 + (1 : Int32)) M11
     else none
    else none
  else
    (f_X1_weatherBehind i1 (M.1 20 i0 6) x2 M).bind fun r4 =>
    let M5 := sR M 20 i0 (upd (M.1 20 i0) 6 r4)
    let M6 := sR M5 20 i0 (upd (M5.1 20 i0) 5 ((M5.1 20 i0 5) + (1 : Int32)))
    (f_X3_openDay i0 i1 M6).bind fun M7 =>
    some (x2, M7)
noncomputable def f_X3_closeDay (i0 : Nat) (i1 : Nat) (M : Mem) : Option (Int32 × Mem) :=
  (f_X3_ruling i0 (M.1 8 i1 12) M).bind fun r1 =>
  if 0 < (M.1 9 i1 2) then
    f_X3_closeDay_20 i0 i1 r1 FU (0 : Int32) M
  else
    let M2 := sR M 20 i0 (upd (M.1 20 i0) 5 ((M.1 20 i0 5) + (1 : Int32)))
    (f_X3_openDay i0 i1 M2).bind fun M3 =>
    some (r1, M3)
set_option maxRecDepth 20000 in
set_option maxHeartbeats 2000000 in
theorem b_X3_closeDay_20 {E : wEnv} {Y : YT} (C : Cx E Y cX3_closeDay 4 RX3 3) {q : (Int32 × Mem)} (R : Rx E Y (some .int) (some (.int q.1)) q.2) {i0 : Nat} {i1 : Nat} {x2 : Int32} (hi0 : i0 < cnt 20) (hi1 : i1 < cnt 8) (n : Nat) : ∀ {x3 : Int32} {M : Mem} (_ : f_X3_closeDay_20 i0 i1 x2 n x3 M = some q), G E Y 4 M 20 [(0, .ref (ad E 20 i0)), (1, .ref (ad E 8 i1)), (2, .int x2), (3, .int x3)] [] := by
  induction n with
  | zero =>
    intro x3 M h
    cases (show none = some q from h)
  | succ n ih =>
    intro x3 M h
    rw [f_X3_closeDay_20] at h
    refine g_iload_n C dX3_closeDay_20 rfl rfl ?_
    refine g_aload_n C dX3_closeDay_21 rfl rfl ?_
    refine get_X3_47 C dX3_closeDay_22 hi1 ?_
    refine g_iconst (v := (3 : Int32)) C dX3_closeDay_25 (by decide) ?_
    refine ld_9 (j := 3) C dX3_closeDay_26 (Nat.lt_of_lt_of_le hi1 (by decide : cnt 8 ≤ cnt 9)) (by decide) rfl ?_
    refine g_icmp_ge (tgt := 54) C dX3_closeDay_27 (by decide) h (fun h => ?_) (fun h => ?_)
    · refine g_aload_n C dX3_closeDay_54 rfl rfl ?_
      refine g_aload_n C dX3_closeDay_55 rfl rfl ?_
      refine g_aload_n C dX3_closeDay_56 rfl rfl ?_
      refine get_X3_31 C dX3_closeDay_57 hi0 ?_
      refine g_iload_n C dX3_closeDay_60 rfl rfl ?_
      obtain ⟨r4, hr4, h⟩ := Option.bind_eq_some_iff.mp h
      refine call_X3_66 C dX3_closeDay_61 hi1 (c_X1_weatherBehind E hi1 hr4) (by decide) rfl ?_
      refine put_X3_31 C dX3_closeDay_64 hi0 ?_
      refine g_aload_n C dX3_closeDay_67 rfl rfl ?_
      refine g_dup C dX3_closeDay_68 rfl ?_
      refine get_X3_28 C dX3_closeDay_69 hi0 ?_
      refine g_iconst (v := (1 : Int32)) C dX3_closeDay_72 (by decide) ?_
      refine g_iadd C dX3_closeDay_73 ?_
      refine put_X3_28 C dX3_closeDay_74 hi0 ?_
      refine g_aload_n C dX3_closeDay_77 rfl rfl ?_
      refine g_aload_n C dX3_closeDay_78 rfl rfl ?_
      obtain ⟨M7, hr7, h⟩ := Option.bind_eq_some_iff.mp h
      refine call_X3_43 C dX3_closeDay_79 hi0 (c_X3_openDay E hi0 hi1 hr7) (by decide) rfl ?_
      refine g_iload_n C dX3_closeDay_82 rfl rfl ?_
      exact g_iret C R dX3_closeDay_83 (fst_of h) (snd_of h)
    · refine g_aload_n C dX3_closeDay_30 rfl rfl ?_
      refine get_X3_15 C dX3_closeDay_31 hi0 ?_
      refine g_iload_n C dX3_closeDay_34 rfl rfl ?_
      refine g_dup2 C dX3_closeDay_35 rfl rfl ?_
      obtain ⟨hb8, h⟩ := of_ite h
      refine ld_22 (j := _) C dX3_closeDay_36 (Nat.lt_of_lt_of_le hi0 (by decide : cnt 20 ≤ cnt 22)) hb8 rfl ?_
      refine g_aload_n C dX3_closeDay_37 rfl rfl ?_
      refine g_iload_n C dX3_closeDay_38 rfl rfl ?_
      refine g_aload_n C dX3_closeDay_39 rfl rfl ?_
      refine get_X3_31 C dX3_closeDay_40 hi0 ?_
      obtain ⟨r9, hr9, h⟩ := Option.bind_eq_some_iff.mp h
      refine call_X3_62 C dX3_closeDay_43 hi1 (c_X1_growthOf E hi1 hr9) (by decide) rfl ?_
      refine g_iadd C dX3_closeDay_46 ?_
      obtain ⟨hb10, h⟩ := of_ite h
      refine st_22 (j := _) C dX3_closeDay_47 (Nat.lt_of_lt_of_le hi0 (by decide : cnt 20 ≤ cnt 22)) hb10 rfl ?_
      refine g_iinc (w := (1 : Int32)) C dX3_closeDay_48 rfl (by decide) rfl ?_
      refine g_goto (tgt := 20) C dX3_closeDay_51 (by decide) ?_
      exact g_sub (ih h) ⟨rfl, rfl, rfl, rfl, trivial⟩
set_option maxRecDepth 20000 in
set_option maxHeartbeats 2000000 in
theorem c_X3_closeDay (E : wEnv) {i0 : Nat} {i1 : Nat} {M : Mem} {q : (Int32 × Mem)} (hi0 : i0 < cnt 20) (hi1 : i1 < cnt 8) (h : f_X3_closeDay i0 i1 M = some q) : Mt E yX3_closeDay cX3_closeDay 4 (some .int) 3 [.ref (ad E 20 i0), .ref (ad E 8 i1)] M (some (.int q.1)) q.2 := by
  unfold f_X3_closeDay at h
  refine mt_intro (own := RX3) (lv0 := [(0, .ref (ad E 20 i0)), (1, .ref (ad E 8 i1))]) (by decide) rfl rfl rfl (fun Y C R => ?_)
  refine g_aload_n C dX3_closeDay_0 rfl rfl ?_
  refine g_aload_n C dX3_closeDay_1 rfl rfl ?_
  refine get_X3_55 C dX3_closeDay_2 hi1 ?_
  obtain ⟨r1, hr1, h⟩ := Option.bind_eq_some_iff.mp h
  refine call_X3_58 C dX3_closeDay_5 hi0 (c_X3_ruling E hi0 hr1) (by decide) rfl ?_
  refine g_istore_n C dX3_closeDay_8 rfl rfl ?_
  refine g_aload_n C dX3_closeDay_9 rfl rfl ?_
  refine get_X3_47 C dX3_closeDay_10 hi1 ?_
  refine g_iconst (v := (2 : Int32)) C dX3_closeDay_13 (by decide) ?_
  refine ld_9 (j := 2) C dX3_closeDay_14 (Nat.lt_of_lt_of_le hi1 (by decide : cnt 8 ≤ cnt 9)) (by decide) rfl ?_
  refine g_if_le (tgt := 67) C dX3_closeDay_15 (by decide) h (fun h => ?_) (fun h => ?_)
  · refine g_aload_n C dX3_closeDay_67 rfl rfl ?_
    refine g_dup C dX3_closeDay_68 rfl ?_
    refine get_X3_28 C dX3_closeDay_69 hi0 ?_
    refine g_iconst (v := (1 : Int32)) C dX3_closeDay_72 (by decide) ?_
    refine g_iadd C dX3_closeDay_73 ?_
    refine put_X3_28 C dX3_closeDay_74 hi0 ?_
    refine g_aload_n C dX3_closeDay_77 rfl rfl ?_
    refine g_aload_n C dX3_closeDay_78 rfl rfl ?_
    obtain ⟨M3, hr3, h⟩ := Option.bind_eq_some_iff.mp h
    refine call_X3_43 C dX3_closeDay_79 hi0 (c_X3_openDay E hi0 hi1 hr3) (by decide) rfl ?_
    refine g_iload_n C dX3_closeDay_82 rfl rfl ?_
    exact g_iret C R dX3_closeDay_83 (fst_of h) (snd_of h)
  · refine g_iconst (v := (0 : Int32)) C dX3_closeDay_18 (by decide) ?_
    refine g_istore_n C dX3_closeDay_19 rfl rfl ?_
    exact g_sub (b_X3_closeDay_20 C R hi0 hi1 _ h) ⟨rfl, rfl, rfl, rfl, trivial⟩
noncomputable def f_X3_unseat (i0 : Nat) (x1 : Int32) (M : Mem) : Option Mem :=
  let M1 := sR M 20 i0 (upd (M.1 20 i0) 2 ((M.1 20 i0 2) &&& (((1 : Int32) <<< (x1 &&& 31)) ^^^ (-1 : Int32))))
  some M1
set_option maxRecDepth 20000 in
set_option maxHeartbeats 2000000 in
theorem c_X3_unseat (E : wEnv) {i0 : Nat} {x1 : Int32} {M : Mem} {q : Mem} (hi0 : i0 < cnt 20) (h : f_X3_unseat i0 x1 M = some q) : Mt E yX3_unseat cX3_unseat 2 none 0 [.ref (ad E 20 i0), .int x1] M none q := by
  unfold f_X3_unseat at h
  refine mt_intro (own := RX3) (lv0 := [(0, .ref (ad E 20 i0)), (1, .int x1)]) (by decide) rfl rfl rfl (fun Y C R => ?_)
  refine g_aload_n C dX3_unseat_0 rfl rfl ?_
  refine g_dup C dX3_unseat_1 rfl ?_
  refine get_X3_18 C dX3_unseat_2 hi0 ?_
  refine g_iconst (v := (1 : Int32)) C dX3_unseat_5 (by decide) ?_
  refine g_iload_n C dX3_unseat_6 rfl rfl ?_
  refine g_ishl C dX3_unseat_7 ?_
  refine g_iconst (v := (-1 : Int32)) C dX3_unseat_8 (by decide) ?_
  refine g_ixor C dX3_unseat_9 ?_
  refine g_iand C dX3_unseat_10 ?_
  refine put_X3_18 C dX3_unseat_11 hi0 ?_
  exact g_vret C R dX3_unseat_14 (Option.some.inj h)
noncomputable def f_X3_reseat (i0 : Nat) (x1 : Int32) (M : Mem) : Option Mem :=
  let M1 := sR M 20 i0 (upd (M.1 20 i0) 2 ((M.1 20 i0 2) ||| ((1 : Int32) <<< (x1 &&& 31))))
  some M1
set_option maxRecDepth 20000 in
set_option maxHeartbeats 2000000 in
theorem c_X3_reseat (E : wEnv) {i0 : Nat} {x1 : Int32} {M : Mem} {q : Mem} (hi0 : i0 < cnt 20) (h : f_X3_reseat i0 x1 M = some q) : Mt E yX3_reseat cX3_reseat 2 none 0 [.ref (ad E 20 i0), .int x1] M none q := by
  unfold f_X3_reseat at h
  refine mt_intro (own := RX3) (lv0 := [(0, .ref (ad E 20 i0)), (1, .int x1)]) (by decide) rfl rfl rfl (fun Y C R => ?_)
  refine g_aload_n C dX3_reseat_0 rfl rfl ?_
  refine g_dup C dX3_reseat_1 rfl ?_
  refine get_X3_18 C dX3_reseat_2 hi0 ?_
  refine g_iconst (v := (1 : Int32)) C dX3_reseat_5 (by decide) ?_
  refine g_iload_n C dX3_reseat_6 rfl rfl ?_
  refine g_ishl C dX3_reseat_7 ?_
  refine g_ior C dX3_reseat_8 ?_
  refine put_X3_18 C dX3_reseat_9 hi0 ?_
  exact g_vret C R dX3_reseat_12 (Option.some.inj h)
noncomputable def f_X3_canPay (i0 : Nat) (i1 : Nat) (x2 : Int32) (M : Mem) : Option Int32 :=
  if inb x2 10 = true then
   if (9999 : Int32) < ((M.1 20 i0 7) + (M.1 13 i1 x2.toNatClampNeg)) then
     some (0 : Int32)
   else
     some (1 : Int32)
  else none
set_option maxRecDepth 20000 in
set_option maxHeartbeats 2000000 in
theorem c_X3_canPay (E : wEnv) {i0 : Nat} {i1 : Nat} {x2 : Int32} {M : Mem} {q : Int32} (hi0 : i0 < cnt 20) (hi1 : i1 < cnt 8) (h : f_X3_canPay i0 i1 x2 M = some q) : Mt E yX3_canPay cX3_canPay 3 (some .boolean) 0 [.ref (ad E 20 i0), .ref (ad E 8 i1), .int x2] M (some (.int q)) M := by
  unfold f_X3_canPay at h
  refine mt_intro (own := RX3) (lv0 := [(0, .ref (ad E 20 i0)), (1, .ref (ad E 8 i1)), (2, .int x2)]) (by decide) rfl rfl rfl (fun Y C R => ?_)
  refine g_aload_n C dX3_canPay_0 rfl rfl ?_
  refine get_X3_34 C dX3_canPay_1 hi0 ?_
  refine g_aload_n C dX3_canPay_4 rfl rfl ?_
  refine get_X3_85 C dX3_canPay_5 hi1 ?_
  refine g_iload_n C dX3_canPay_8 rfl rfl ?_
  obtain ⟨hb1, h⟩ := of_ite h
  refine ld_13 (j := _) C dX3_canPay_9 (Nat.lt_of_lt_of_le hi1 (by decide : cnt 8 ≤ cnt 13)) hb1 rfl ?_
  refine g_iadd C dX3_canPay_10 ?_
  refine g_sipush (v := (9999 : Int32)) C dX3_canPay_11 (by decide) ?_
  refine g_icmp_gt (tgt := 21) C dX3_canPay_14 (by decide) h (fun h => ?_) (fun h => ?_)
  · refine g_iconst (v := (0 : Int32)) C dX3_canPay_21 (by decide) ?_
    exact g_zret C R dX3_canPay_22 (Option.some.inj h) (Or.inl rfl) rfl
  · refine g_iconst (v := (1 : Int32)) C dX3_canPay_17 (by decide) ?_
    refine g_goto (tgt := 22) C dX3_canPay_18 (by decide) ?_
    exact g_zret C R dX3_canPay_22 (Option.some.inj h) (Or.inr rfl) rfl
noncomputable def f_X3_buy (i0 : Nat) (i1 : Nat) (x2 : Int32) (x3 : Int32) (M : Mem) : Option Mem :=
  if inb x2 10 = true then
   let M2 := sR M 20 i0 (upd (M.1 20 i0) 7 ((M.1 20 i0 7) + (M.1 13 i1 x2.toNatClampNeg)))
   if inb x2 10 = true then
    let M4 := sR M2 21 i0 (upd (M2.1 21 i0) x2.toNatClampNeg (x3 * (99 : Int32)))
    some M4
   else none
  else none
set_option maxRecDepth 20000 in
set_option maxHeartbeats 2000000 in
theorem c_X3_buy (E : wEnv) {i0 : Nat} {i1 : Nat} {x2 : Int32} {x3 : Int32} {M : Mem} {q : Mem} (hi0 : i0 < cnt 20) (hi1 : i1 < cnt 8) (h : f_X3_buy i0 i1 x2 x3 M = some q) : Mt E yX3_buy cX3_buy 4 none 0 [.ref (ad E 20 i0), .ref (ad E 8 i1), .int x2, .int x3] M none q := by
  unfold f_X3_buy at h
  refine mt_intro (own := RX3) (lv0 := [(0, .ref (ad E 20 i0)), (1, .ref (ad E 8 i1)), (2, .int x2), (3, .int x3)]) (by decide) rfl rfl rfl (fun Y C R => ?_)
  refine g_aload_n C dX3_buy_0 rfl rfl ?_
  refine g_dup C dX3_buy_1 rfl ?_
  refine get_X3_34 C dX3_buy_2 hi0 ?_
  refine g_aload_n C dX3_buy_5 rfl rfl ?_
  refine get_X3_85 C dX3_buy_6 hi1 ?_
  refine g_iload_n C dX3_buy_9 rfl rfl ?_
  obtain ⟨hb1, h⟩ := of_ite h
  refine ld_13 (j := _) C dX3_buy_10 (Nat.lt_of_lt_of_le hi1 (by decide : cnt 8 ≤ cnt 13)) hb1 rfl ?_
  refine g_iadd C dX3_buy_11 ?_
  refine put_X3_34 C dX3_buy_12 hi0 ?_
  refine g_aload_n C dX3_buy_15 rfl rfl ?_
  refine get_X3_9 C dX3_buy_16 hi0 ?_
  refine g_iload_n C dX3_buy_19 rfl rfl ?_
  refine g_iload_n C dX3_buy_20 rfl rfl ?_
  refine g_bipush (v := (99 : Int32)) C dX3_buy_21 (by decide) ?_
  refine g_imul C dX3_buy_23 ?_
  obtain ⟨hb3, h⟩ := of_ite h
  refine st_21 (j := _) C dX3_buy_24 (Nat.lt_of_lt_of_le hi0 (by decide : cnt 20 ≤ cnt 21)) hb3 rfl ?_
  exact g_vret C R dX3_buy_25 (Option.some.inj h)
noncomputable def f_X4_passEnd (i0 : Nat) (i1 : Nat) (x2 : Int32) (M : Mem) : Option (Int32 × Mem) :=
  if inb x2 60 = true then
   let x3_2 := (M.1 29 i1 x2.toNatClampNeg)
   if inb x3_2 60 = true then
    if (M.1 24 i1 x3_2.toNatClampNeg) = (27 : Int32) then
      if inb x3_2 60 = true then
       if (1 : Int32) < (M.1 45 i0 x3_2.toNatClampNeg) then
         if inb x3_2 60 = true then
          if inb x3_2 60 = true then
           let M7 := sR M 45 i0 (upd (M.1 45 i0) x3_2.toNatClampNeg ((M.1 45 i0 x3_2.toNatClampNeg) - (1 : Int32)))
           some ((x3_2 + (1 : Int32)), M7)
          else none
         else none
       else
         some ((x2 + (1 : Int32)), M)
      else none
    else
      some ((x2 + (1 : Int32)), M)
   else none
  else none
set_option maxRecDepth 20000 in
set_option maxHeartbeats 2000000 in
theorem c_X4_passEnd (E : wEnv) {i0 : Nat} {i1 : Nat} {x2 : Int32} {M : Mem} {q : (Int32 × Mem)} (hi0 : i0 < cnt 44) (hi1 : i1 < cnt 23) (h : f_X4_passEnd i0 i1 x2 M = some q) : Mt E yX4_passEnd cX4_passEnd 4 (some .int) 0 [.ref (ad E 44 i0), .ref (ad E 23 i1), .int x2] M (some (.int q.1)) q.2 := by
  unfold f_X4_passEnd at h
  refine mt_intro (own := RX4) (lv0 := [(0, .ref (ad E 44 i0)), (1, .ref (ad E 23 i1)), (2, .int x2)]) (by decide) rfl rfl rfl (fun Y C R => ?_)
  refine g_aload_n C dX4_passEnd_0 rfl rfl ?_
  refine get_X4_69 C dX4_passEnd_1 hi1 ?_
  refine g_iload_n C dX4_passEnd_4 rfl rfl ?_
  obtain ⟨hb1, h⟩ := of_ite h
  refine ld_29 (j := _) C dX4_passEnd_5 (Nat.lt_of_lt_of_le hi1 (by decide : cnt 23 ≤ cnt 29)) hb1 rfl ?_
  refine g_istore_n C dX4_passEnd_6 rfl rfl ?_
  refine g_aload_n C dX4_passEnd_7 rfl rfl ?_
  refine get_X4_50 C dX4_passEnd_8 hi1 ?_
  refine g_iload_n C dX4_passEnd_11 rfl rfl ?_
  obtain ⟨hb3, h⟩ := of_ite h
  refine ld_24 (j := _) C dX4_passEnd_12 (Nat.lt_of_lt_of_le hi1 (by decide : cnt 23 ≤ cnt 24)) hb3 rfl ?_
  refine g_bipush (v := (27 : Int32)) C dX4_passEnd_13 (by decide) ?_
  refine g_icmp_ne (tgt := 42) C dX4_passEnd_15 (by decide) h (fun h => ?_) (fun h => ?_)
  · refine g_iload_n C dX4_passEnd_42 rfl rfl ?_
    refine g_iconst (v := (1 : Int32)) C dX4_passEnd_43 (by decide) ?_
    refine g_iadd C dX4_passEnd_44 ?_
    exact g_iret C R dX4_passEnd_45 (fst_of h) (snd_of h)
  · refine g_aload_n C dX4_passEnd_18 rfl rfl ?_
    refine get_X4_9 C dX4_passEnd_19 hi0 ?_
    refine g_iload_n C dX4_passEnd_22 rfl rfl ?_
    obtain ⟨hb4, h⟩ := of_ite h
    refine ld_45 (j := _) C dX4_passEnd_23 (Nat.lt_of_lt_of_le hi0 (by decide : cnt 44 ≤ cnt 45)) hb4 rfl ?_
    refine g_iconst (v := (1 : Int32)) C dX4_passEnd_24 (by decide) ?_
    refine g_icmp_le (tgt := 42) C dX4_passEnd_25 (by decide) h (fun h => ?_) (fun h => ?_)
    · refine g_iload_n C dX4_passEnd_42 rfl rfl ?_
      refine g_iconst (v := (1 : Int32)) C dX4_passEnd_43 (by decide) ?_
      refine g_iadd C dX4_passEnd_44 ?_
      exact g_iret C R dX4_passEnd_45 (fst_of h) (snd_of h)
    · refine g_aload_n C dX4_passEnd_28 rfl rfl ?_
      refine get_X4_9 C dX4_passEnd_29 hi0 ?_
      refine g_iload_n C dX4_passEnd_32 rfl rfl ?_
      refine g_dup2 C dX4_passEnd_33 rfl rfl ?_
      obtain ⟨hb5, h⟩ := of_ite h
      refine ld_45 (j := _) C dX4_passEnd_34 (Nat.lt_of_lt_of_le hi0 (by decide : cnt 44 ≤ cnt 45)) hb5 rfl ?_
      refine g_iconst (v := (1 : Int32)) C dX4_passEnd_35 (by decide) ?_
      refine g_isub C dX4_passEnd_36 ?_
      obtain ⟨hb6, h⟩ := of_ite h
      refine st_45 (j := _) C dX4_passEnd_37 (Nat.lt_of_lt_of_le hi0 (by decide : cnt 44 ≤ cnt 45)) hb6 rfl ?_
      refine g_iload_n C dX4_passEnd_38 rfl rfl ?_
      refine g_iconst (v := (1 : Int32)) C dX4_passEnd_39 (by decide) ?_
      refine g_iadd C dX4_passEnd_40 ?_
      exact g_iret C R dX4_passEnd_41 (fst_of h) (snd_of h)
noncomputable def f_X4_holds_56 (i0 : Nat) (x2 : Int32) (ps0 : Int32) (M : Mem) : Option Int32 :=
  if inb x2 60 = true then
   let x5_7 := (M.1 28 i0 x2.toNatClampNeg)
   if inb x2 60 = true then
    if (M.1 27 i0 x2.toNatClampNeg) = (60 : Int32) then
      if ps0 < x5_7 then
        some (1 : Int32)
      else
        some (0 : Int32)
    else
    if (M.1 27 i0 x2.toNatClampNeg) = (62 : Int32) then
      if x5_7 < ps0 then
        some (1 : Int32)
      else
        some (0 : Int32)
    else
      if ps0 = x5_7 then
        some (1 : Int32)
      else
        some (0 : Int32)
   else none
  else none
noncomputable def f_X4_holds (i0 : Nat) (i1 : Nat) (x2 : Int32) (M : Mem) : Option Int32 :=
  if inb x2 60 = true then
   let x3_2 := (M.1 26 i0 x2.toNatClampNeg)
   if inb x2 60 = true then
    if (M.1 25 i0 x2.toNatClampNeg) = (7 : Int32) then
      if (M.1 20 i1 6) = x3_2 then
        some (1 : Int32)
      else
        some (0 : Int32)
    else
      if inb x2 60 = true then
       if (M.1 25 i0 x2.toNatClampNeg) = (26 : Int32) then
         (f_X3_guiltyVotes i1 M).bind fun r11 =>
         f_X4_holds_56 i0 x2 r11 M
       else
         if inb x3_2 4 = true then
          f_X4_holds_56 i0 x2 (M.1 22 i1 x3_2.toNatClampNeg) M
         else none
      else none
   else none
  else none
set_option maxRecDepth 20000 in
set_option maxHeartbeats 2000000 in
theorem b_X4_holds_56 {E : wEnv} {Y : YT} (C : Cx E Y cX4_holds 6 RX4 1) {q : Int32} {M : Mem} (R : Rx E Y (some .boolean) (some (.int q)) M) {i0 : Nat} {x2 : Int32} {ps0 : Int32} (hi0 : i0 < cnt 23) (h : f_X4_holds_56 i0 x2 ps0 M = some q) : G E Y 6 M 56 [(0, .ref (ad E 23 i0)), (2, .int x2)] [.int ps0] := by
  unfold f_X4_holds_56 at h
  refine g_istore C dX4_holds_56 rfl ?_
  refine g_aload_n C dX4_holds_58 rfl rfl ?_
  refine get_X4_94 C dX4_holds_59 hi0 ?_
  refine g_iload_n C dX4_holds_62 rfl rfl ?_
  obtain ⟨hb6, h⟩ := of_ite h
  refine ld_28 (j := _) C dX4_holds_63 (Nat.lt_of_lt_of_le hi0 (by decide : cnt 23 ≤ cnt 28)) hb6 rfl ?_
  refine g_istore C dX4_holds_64 rfl ?_
  refine g_aload_n C dX4_holds_66 rfl rfl ?_
  refine get_X4_97 C dX4_holds_67 hi0 ?_
  refine g_iload_n C dX4_holds_70 rfl rfl ?_
  obtain ⟨hb8, h⟩ := of_ite h
  refine ld_27 (j := _) C dX4_holds_71 (Nat.lt_of_lt_of_le hi0 (by decide : cnt 23 ≤ cnt 27)) hb8 rfl ?_
  rcases of_ites h with ⟨c9, h⟩ | ⟨c9, h⟩
  · refine g_lookup (off := 28) (tgt := 100) C dX4_holds_72 (by decide) (by rw [c9]; decide) (by decide) ?_
    refine g_iload C dX4_holds_100 rfl ?_
    refine g_iload C dX4_holds_102 rfl ?_
    refine g_icmp_ge (tgt := 111) C dX4_holds_104 (by decide) h (fun h => ?_) (fun h => ?_)
    · refine g_iconst (v := (0 : Int32)) C dX4_holds_111 (by decide) ?_
      exact g_zret C R dX4_holds_112 (Option.some.inj h) (Or.inl rfl) rfl
    · refine g_iconst (v := (1 : Int32)) C dX4_holds_107 (by decide) ?_
      refine g_goto (tgt := 112) C dX4_holds_108 (by decide) ?_
      exact g_zret C R dX4_holds_112 (Option.some.inj h) (Or.inr rfl) rfl
  · rcases of_ites h with ⟨c10, h⟩ | ⟨c10, h⟩
    · refine g_lookup (off := 41) (tgt := 113) C dX4_holds_72 (by decide) (by rw [c10]; decide) (by decide) ?_
      refine g_iload C dX4_holds_113 rfl ?_
      refine g_iload C dX4_holds_115 rfl ?_
      refine g_icmp_le (tgt := 124) C dX4_holds_117 (by decide) h (fun h => ?_) (fun h => ?_)
      · refine g_iconst (v := (0 : Int32)) C dX4_holds_124 (by decide) ?_
        exact g_zret C R dX4_holds_125 (Option.some.inj h) (Or.inl rfl) rfl
      · refine g_iconst (v := (1 : Int32)) C dX4_holds_120 (by decide) ?_
        refine g_goto (tgt := 125) C dX4_holds_121 (by decide) ?_
        exact g_zret C R dX4_holds_125 (Option.some.inj h) (Or.inr rfl) rfl
    · refine g_lookup (off := 54) (tgt := 126) C dX4_holds_72 (by decide) (lookup_out c9 c10) (by decide) ?_
      refine g_iload C dX4_holds_126 rfl ?_
      refine g_iload C dX4_holds_128 rfl ?_
      refine g_icmp_ne (tgt := 137) C dX4_holds_130 (by decide) h (fun h => ?_) (fun h => ?_)
      · refine g_iconst (v := (0 : Int32)) C dX4_holds_137 (by decide) ?_
        exact g_zret C R dX4_holds_138 (Option.some.inj h) (Or.inl rfl) rfl
      · refine g_iconst (v := (1 : Int32)) C dX4_holds_133 (by decide) ?_
        refine g_goto (tgt := 138) C dX4_holds_134 (by decide) ?_
        exact g_zret C R dX4_holds_138 (Option.some.inj h) (Or.inr rfl) rfl
set_option maxRecDepth 20000 in
set_option maxHeartbeats 2000000 in
theorem c_X4_holds (E : wEnv) {i0 : Nat} {i1 : Nat} {x2 : Int32} {M : Mem} {q : Int32} (hi0 : i0 < cnt 23) (hi1 : i1 < cnt 20) (h : f_X4_holds i0 i1 x2 M = some q) : Mt E yX4_holds cX4_holds 6 (some .boolean) 1 [.ref (ad E 23 i0), .ref (ad E 20 i1), .int x2] M (some (.int q)) M := by
  unfold f_X4_holds at h
  refine mt_intro (own := RX4) (lv0 := [(0, .ref (ad E 23 i0)), (1, .ref (ad E 20 i1)), (2, .int x2)]) (by decide) rfl rfl rfl (fun Y C R => ?_)
  refine g_aload_n C dX4_holds_0 rfl rfl ?_
  refine get_X4_79 C dX4_holds_1 hi0 ?_
  refine g_iload_n C dX4_holds_4 rfl rfl ?_
  obtain ⟨hb1, h⟩ := of_ite h
  refine ld_26 (j := _) C dX4_holds_5 (Nat.lt_of_lt_of_le hi0 (by decide : cnt 23 ≤ cnt 26)) hb1 rfl ?_
  refine g_istore_n C dX4_holds_6 rfl rfl ?_
  refine g_aload_n C dX4_holds_7 rfl rfl ?_
  refine get_X4_72 C dX4_holds_8 hi0 ?_
  refine g_iload_n C dX4_holds_11 rfl rfl ?_
  obtain ⟨hb3, h⟩ := of_ite h
  refine ld_25 (j := _) C dX4_holds_12 (Nat.lt_of_lt_of_le hi0 (by decide : cnt 23 ≤ cnt 25)) hb3 rfl ?_
  refine g_bipush (v := (7 : Int32)) C dX4_holds_13 (by decide) ?_
  refine g_icmp_ne (tgt := 32) C dX4_holds_15 (by decide) h (fun h => ?_) (fun h => ?_)
  · refine g_aload_n C dX4_holds_32 rfl rfl ?_
    refine get_X4_72 C dX4_holds_33 hi0 ?_
    refine g_iload_n C dX4_holds_36 rfl rfl ?_
    obtain ⟨hb4, h⟩ := of_ite h
    refine ld_25 (j := _) C dX4_holds_37 (Nat.lt_of_lt_of_le hi0 (by decide : cnt 23 ≤ cnt 25)) hb4 rfl ?_
    refine g_bipush (v := (26 : Int32)) C dX4_holds_38 (by decide) ?_
    refine g_icmp_ne (tgt := 50) C dX4_holds_40 (by decide) h (fun h => ?_) (fun h => ?_)
    · refine g_aload_n C dX4_holds_50 rfl rfl ?_
      refine get_X4_91 C dX4_holds_51 hi1 ?_
      refine g_iload_n C dX4_holds_54 rfl rfl ?_
      obtain ⟨hb5, h⟩ := of_ite h
      refine ld_22 (j := _) C dX4_holds_55 (Nat.lt_of_lt_of_le hi1 (by decide : cnt 20 ≤ cnt 22)) hb5 rfl ?_
      exact g_sub (b_X4_holds_56 C R hi0 h) ⟨rfl, rfl, trivial⟩
    · refine g_aload_n C dX4_holds_43 rfl rfl ?_
      obtain ⟨r11, hr11, h⟩ := Option.bind_eq_some_iff.mp h
      refine call_X4_87 C dX4_holds_44 hi1 (c_X3_guiltyVotes E hi1 hr11) (by decide) rfl ?_
      refine g_goto (tgt := 56) C dX4_holds_47 (by decide) ?_
      exact g_sub (b_X4_holds_56 C R hi0 h) ⟨rfl, rfl, trivial⟩
  · refine g_aload_n C dX4_holds_18 rfl rfl ?_
    refine get_X4_82 C dX4_holds_19 hi1 ?_
    refine g_iload_n C dX4_holds_22 rfl rfl ?_
    refine g_icmp_ne (tgt := 30) C dX4_holds_23 (by decide) h (fun h => ?_) (fun h => ?_)
    · refine g_iconst (v := (0 : Int32)) C dX4_holds_30 (by decide) ?_
      exact g_zret C R dX4_holds_31 (Option.some.inj h) (Or.inl rfl) rfl
    · refine g_iconst (v := (1 : Int32)) C dX4_holds_26 (by decide) ?_
      refine g_goto (tgt := 31) C dX4_holds_27 (by decide) ?_
      exact g_zret C R dX4_holds_31 (Option.some.inj h) (Or.inr rfl) rfl
noncomputable def f_X4_turns (i0 : Nat) (i1 : Nat) (i2 : Nat) (x3 : Int32) (M : Mem) : Option (Int32 × Mem) :=
  if inb x3 60 = true then
   if (M.1 24 i1 x3.toNatClampNeg) = (29 : Int32) then
     some ((M.1 23 i1 6), M)
   else
     if inb x3 60 = true then
      if (M.1 24 i1 x3.toNatClampNeg) = (27 : Int32) then
        if inb x3 60 = true then
         if inb x3 60 = true then
          let M7 := sR M 45 i0 (upd (M.1 45 i0) x3.toNatClampNeg (M.1 25 i1 x3.toNatClampNeg))
          some ((x3 + (1 : Int32)), M7)
         else none
        else none
      else
        (f_X4_holds i1 i2 x3 M).bind fun r3 =>
        if r3 = 0 then
          if inb x3 60 = true then
           some (((M.1 29 i1 x3.toNatClampNeg) + (1 : Int32)), M)
          else none
        else
          some ((x3 + (1 : Int32)), M)
     else none
  else none
set_option maxRecDepth 20000 in
set_option maxHeartbeats 2000000 in
theorem c_X4_turns (E : wEnv) {i0 : Nat} {i1 : Nat} {i2 : Nat} {x3 : Int32} {M : Mem} {q : (Int32 × Mem)} (hi0 : i0 < cnt 44) (hi1 : i1 < cnt 23) (hi2 : i2 < cnt 20) (h : f_X4_turns i0 i1 i2 x3 M = some q) : Mt E yX4_turns cX4_turns 4 (some .int) 2 [.ref (ad E 44 i0), .ref (ad E 23 i1), .ref (ad E 20 i2), .int x3] M (some (.int q.1)) q.2 := by
  unfold f_X4_turns at h
  refine mt_intro (own := RX4) (lv0 := [(0, .ref (ad E 44 i0)), (1, .ref (ad E 23 i1)), (2, .ref (ad E 20 i2)), (3, .int x3)]) (by decide) rfl rfl rfl (fun Y C R => ?_)
  refine g_aload_n C dX4_turns_0 rfl rfl ?_
  refine get_X4_50 C dX4_turns_1 hi1 ?_
  refine g_iload_n C dX4_turns_4 rfl rfl ?_
  obtain ⟨hb1, h⟩ := of_ite h
  refine ld_24 (j := _) C dX4_turns_5 (Nat.lt_of_lt_of_le hi1 (by decide : cnt 23 ≤ cnt 24)) hb1 rfl ?_
  refine g_bipush (v := (29 : Int32)) C dX4_turns_6 (by decide) ?_
  refine g_icmp_ne (tgt := 16) C dX4_turns_8 (by decide) h (fun h => ?_) (fun h => ?_)
  · refine g_aload_n C dX4_turns_16 rfl rfl ?_
    refine get_X4_50 C dX4_turns_17 hi1 ?_
    refine g_iload_n C dX4_turns_20 rfl rfl ?_
    obtain ⟨hb2, h⟩ := of_ite h
    refine ld_24 (j := _) C dX4_turns_21 (Nat.lt_of_lt_of_le hi1 (by decide : cnt 23 ≤ cnt 24)) hb2 rfl ?_
    refine g_bipush (v := (27 : Int32)) C dX4_turns_22 (by decide) ?_
    refine g_icmp_ne (tgt := 43) C dX4_turns_24 (by decide) h (fun h => ?_) (fun h => ?_)
    · refine g_aload_n C dX4_turns_43 rfl rfl ?_
      refine g_aload_n C dX4_turns_44 rfl rfl ?_
      refine g_iload_n C dX4_turns_45 rfl rfl ?_
      obtain ⟨r3, hr3, h⟩ := Option.bind_eq_some_iff.mp h
      refine call_X4_75 C dX4_turns_46 (c_X4_holds E hi1 hi2 hr3) (by decide) rfl ?_
      refine g_if_eq (tgt := 58) C dX4_turns_49 (by decide) h (fun h => ?_) (fun h => ?_)
      · refine g_aload_n C dX4_turns_58 rfl rfl ?_
        refine get_X4_69 C dX4_turns_59 hi1 ?_
        refine g_iload_n C dX4_turns_62 rfl rfl ?_
        obtain ⟨hb4, h⟩ := of_ite h
        refine ld_29 (j := _) C dX4_turns_63 (Nat.lt_of_lt_of_le hi1 (by decide : cnt 23 ≤ cnt 29)) hb4 rfl ?_
        refine g_iconst (v := (1 : Int32)) C dX4_turns_64 (by decide) ?_
        refine g_iadd C dX4_turns_65 ?_
        exact g_iret C R dX4_turns_66 (fst_of h) (snd_of h)
      · refine g_iload_n C dX4_turns_52 rfl rfl ?_
        refine g_iconst (v := (1 : Int32)) C dX4_turns_53 (by decide) ?_
        refine g_iadd C dX4_turns_54 ?_
        refine g_goto (tgt := 66) C dX4_turns_55 (by decide) ?_
        exact g_iret C R dX4_turns_66 (fst_of h) (snd_of h)
    · refine g_aload_n C dX4_turns_27 rfl rfl ?_
      refine get_X4_9 C dX4_turns_28 hi0 ?_
      refine g_iload_n C dX4_turns_31 rfl rfl ?_
      refine g_aload_n C dX4_turns_32 rfl rfl ?_
      refine get_X4_72 C dX4_turns_33 hi1 ?_
      refine g_iload_n C dX4_turns_36 rfl rfl ?_
      obtain ⟨hb5, h⟩ := of_ite h
      refine ld_25 (j := _) C dX4_turns_37 (Nat.lt_of_lt_of_le hi1 (by decide : cnt 23 ≤ cnt 25)) hb5 rfl ?_
      obtain ⟨hb6, h⟩ := of_ite h
      refine st_45 (j := _) C dX4_turns_38 (Nat.lt_of_lt_of_le hi0 (by decide : cnt 44 ≤ cnt 45)) hb6 rfl ?_
      refine g_iload_n C dX4_turns_39 rfl rfl ?_
      refine g_iconst (v := (1 : Int32)) C dX4_turns_40 (by decide) ?_
      refine g_iadd C dX4_turns_41 ?_
      exact g_iret C R dX4_turns_42 (fst_of h) (snd_of h)
  · refine g_aload_n C dX4_turns_11 rfl rfl ?_
    refine get_X4_45 C dX4_turns_12 hi1 ?_
    exact g_iret C R dX4_turns_15 (fst_of h) (snd_of h)
noncomputable def f_X4_canDo (i0 : Nat) (i1 : Nat) (x2 : Int32) (x3 : Int32) (M : Mem) : Option Int32 :=
  if x2 = (18 : Int32) then
    (f_X3_wasShown i1 x3 M).bind fun r1 =>
    if r1 = 0 then
      some (1 : Int32)
    else
      some (0 : Int32)
  else
  if x2 = (19 : Int32) then
    if (9999 : Int32) < ((M.1 20 i1 4) + x3) then
      some (0 : Int32)
    else
      some (1 : Int32)
  else
  if x2 = (20 : Int32) then
    if (M.1 20 i1 5) < (9999 : Int32) then
      some (1 : Int32)
    else
      some (0 : Int32)
  else
  if x2 = (21 : Int32) then
    (f_X3_isSeated i1 x3 M).bind fun r5 =>
    if isB r5 = true then some r5 else none
  else
  if x2 = (22 : Int32) then
    (f_X3_isSeated i1 x3 M).bind fun r8 =>
    if r8 = 0 then
      some (1 : Int32)
    else
      some (0 : Int32)
  else
  if x2 = (23 : Int32) then
    (f_X3_isSeated i1 x3 M).bind fun r10 =>
    if r10 = 0 then
      some (0 : Int32)
    else
      (f_X3_canPay i1 i0 x3 M).bind fun r11 =>
      if r11 = 0 then
        some (0 : Int32)
      else
        some (1 : Int32)
  else
    some (1 : Int32)
set_option maxRecDepth 20000 in
set_option maxHeartbeats 2000000 in
theorem c_X4_canDo (E : wEnv) {i0 : Nat} {i1 : Nat} {x2 : Int32} {x3 : Int32} {M : Mem} {q : Int32} (hi0 : i0 < cnt 8) (hi1 : i1 < cnt 20) (h : f_X4_canDo i0 i1 x2 x3 M = some q) : Mt E yX4_canDo cX4_canDo 4 (some .boolean) 1 [.ref (ad E 8 i0), .ref (ad E 20 i1), .int x2, .int x3] M (some (.int q)) M := by
  unfold f_X4_canDo at h
  refine mt_intro (own := RX4) (lv0 := [(0, .ref (ad E 8 i0)), (1, .ref (ad E 20 i1)), (2, .int x2), (3, .int x3)]) (by decide) rfl rfl rfl (fun Y C R => ?_)
  refine g_iload_n C dX4_canDo_0 rfl rfl ?_
  rcases of_ites h with ⟨c2, h⟩ | ⟨c2, h⟩
  · refine g_tabIn (v := (18 : Int32)) (tgt := 40) C dX4_canDo_1 c2 (by decide) (by decide) rfl (by decide) ?_
    refine g_aload_n C dX4_canDo_40 rfl rfl ?_
    refine g_iload_n C dX4_canDo_41 rfl rfl ?_
    obtain ⟨r1, hr1, h⟩ := Option.bind_eq_some_iff.mp h
    refine call_X4_134 C dX4_canDo_42 hi1 (c_X3_wasShown E hi1 hr1) (by decide) rfl ?_
    refine g_if_ne (tgt := 52) C dX4_canDo_45 (by decide) h (fun h => ?_) (fun h => ?_)
    · refine g_iconst (v := (0 : Int32)) C dX4_canDo_52 (by decide) ?_
      exact g_zret C R dX4_canDo_53 (Option.some.inj h) (Or.inl rfl) rfl
    · refine g_iconst (v := (1 : Int32)) C dX4_canDo_48 (by decide) ?_
      refine g_goto (tgt := 53) C dX4_canDo_49 (by decide) ?_
      exact g_zret C R dX4_canDo_53 (Option.some.inj h) (Or.inr rfl) rfl
  · rcases of_ites h with ⟨c3, h⟩ | ⟨c3, h⟩
    · refine g_tabIn (v := (19 : Int32)) (tgt := 54) C dX4_canDo_1 c3 (by decide) (by decide) rfl (by decide) ?_
      refine g_aload_n C dX4_canDo_54 rfl rfl ?_
      refine get_X4_138 C dX4_canDo_55 hi1 ?_
      refine g_iload_n C dX4_canDo_58 rfl rfl ?_
      refine g_iadd C dX4_canDo_59 ?_
      refine g_sipush (v := (9999 : Int32)) C dX4_canDo_60 (by decide) ?_
      refine g_icmp_gt (tgt := 70) C dX4_canDo_63 (by decide) h (fun h => ?_) (fun h => ?_)
      · refine g_iconst (v := (0 : Int32)) C dX4_canDo_70 (by decide) ?_
        exact g_zret C R dX4_canDo_71 (Option.some.inj h) (Or.inl rfl) rfl
      · refine g_iconst (v := (1 : Int32)) C dX4_canDo_66 (by decide) ?_
        refine g_goto (tgt := 71) C dX4_canDo_67 (by decide) ?_
        exact g_zret C R dX4_canDo_71 (Option.some.inj h) (Or.inr rfl) rfl
    · rcases of_ites h with ⟨c4, h⟩ | ⟨c4, h⟩
      · refine g_tabIn (v := (20 : Int32)) (tgt := 72) C dX4_canDo_1 c4 (by decide) (by decide) rfl (by decide) ?_
        refine g_aload_n C dX4_canDo_72 rfl rfl ?_
        refine get_X4_141 C dX4_canDo_73 hi1 ?_
        refine g_sipush (v := (9999 : Int32)) C dX4_canDo_76 (by decide) ?_
        refine g_icmp_ge (tgt := 86) C dX4_canDo_79 (by decide) h (fun h => ?_) (fun h => ?_)
        · refine g_iconst (v := (0 : Int32)) C dX4_canDo_86 (by decide) ?_
          exact g_zret C R dX4_canDo_87 (Option.some.inj h) (Or.inl rfl) rfl
        · refine g_iconst (v := (1 : Int32)) C dX4_canDo_82 (by decide) ?_
          refine g_goto (tgt := 87) C dX4_canDo_83 (by decide) ?_
          exact g_zret C R dX4_canDo_87 (Option.some.inj h) (Or.inr rfl) rfl
      · rcases of_ites h with ⟨c7, h⟩ | ⟨c7, h⟩
        · refine g_tabIn (v := (21 : Int32)) (tgt := 88) C dX4_canDo_1 c7 (by decide) (by decide) rfl (by decide) ?_
          refine g_aload_n C dX4_canDo_88 rfl rfl ?_
          refine g_iload_n C dX4_canDo_89 rfl rfl ?_
          obtain ⟨r5, hr5, h⟩ := Option.bind_eq_some_iff.mp h
          refine call_X4_144 C dX4_canDo_90 hi1 (c_X3_isSeated E hi1 hr5) (by decide) rfl ?_
          obtain ⟨hz6, h⟩ := of_ite h
          exact g_zret C R dX4_canDo_93 (Option.some.inj h) (isB_of hz6) rfl
        · rcases of_ites h with ⟨c9, h⟩ | ⟨c9, h⟩
          · refine g_tabIn (v := (22 : Int32)) (tgt := 94) C dX4_canDo_1 c9 (by decide) (by decide) rfl (by decide) ?_
            refine g_aload_n C dX4_canDo_94 rfl rfl ?_
            refine g_iload_n C dX4_canDo_95 rfl rfl ?_
            obtain ⟨r8, hr8, h⟩ := Option.bind_eq_some_iff.mp h
            refine call_X4_144 C dX4_canDo_96 hi1 (c_X3_isSeated E hi1 hr8) (by decide) rfl ?_
            refine g_if_ne (tgt := 106) C dX4_canDo_99 (by decide) h (fun h => ?_) (fun h => ?_)
            · refine g_iconst (v := (0 : Int32)) C dX4_canDo_106 (by decide) ?_
              exact g_zret C R dX4_canDo_107 (Option.some.inj h) (Or.inl rfl) rfl
            · refine g_iconst (v := (1 : Int32)) C dX4_canDo_102 (by decide) ?_
              refine g_goto (tgt := 107) C dX4_canDo_103 (by decide) ?_
              exact g_zret C R dX4_canDo_107 (Option.some.inj h) (Or.inr rfl) rfl
          · rcases of_ites h with ⟨c12, h⟩ | ⟨c12, h⟩
            · refine g_tabIn (v := (23 : Int32)) (tgt := 108) C dX4_canDo_1 c12 (by decide) (by decide) rfl (by decide) ?_
              refine g_aload_n C dX4_canDo_108 rfl rfl ?_
              refine g_iload_n C dX4_canDo_109 rfl rfl ?_
              obtain ⟨r10, hr10, h⟩ := Option.bind_eq_some_iff.mp h
              refine call_X4_144 C dX4_canDo_110 hi1 (c_X3_isSeated E hi1 hr10) (by decide) rfl ?_
              refine g_if_eq (tgt := 129) C dX4_canDo_113 (by decide) h (fun h => ?_) (fun h => ?_)
              · refine g_iconst (v := (0 : Int32)) C dX4_canDo_129 (by decide) ?_
                exact g_zret C R dX4_canDo_130 (Option.some.inj h) (Or.inl rfl) rfl
              · refine g_aload_n C dX4_canDo_116 rfl rfl ?_
                refine g_aload_n C dX4_canDo_117 rfl rfl ?_
                refine g_iload_n C dX4_canDo_118 rfl rfl ?_
                obtain ⟨r11, hr11, h⟩ := Option.bind_eq_some_iff.mp h
                refine call_X4_147 C dX4_canDo_119 hi1 (c_X3_canPay E hi1 hi0 hr11) (by decide) rfl ?_
                refine g_if_eq (tgt := 129) C dX4_canDo_122 (by decide) h (fun h => ?_) (fun h => ?_)
                · refine g_iconst (v := (0 : Int32)) C dX4_canDo_129 (by decide) ?_
                  exact g_zret C R dX4_canDo_130 (Option.some.inj h) (Or.inl rfl) rfl
                · refine g_iconst (v := (1 : Int32)) C dX4_canDo_125 (by decide) ?_
                  refine g_goto (tgt := 130) C dX4_canDo_126 (by decide) ?_
                  exact g_zret C R dX4_canDo_130 (Option.some.inj h) (Or.inr rfl) rfl
            · refine g_tabOut (n := 6) (tgt := 131) C dX4_canDo_1 ⟨c2, c3, c4, c7, c9, c12, trivial⟩ (by decide) (by decide) ?_
              refine g_iconst (v := (1 : Int32)) C dX4_canDo_131 (by decide) ?_
              exact g_zret C R dX4_canDo_132 (Option.some.inj h) (Or.inr rfl) rfl
noncomputable def f_X4_countDay (i0 : Nat) (x1 : Int32) (M : Mem) : Option Mem :=
  let M1 := sR M 44 i0 (upd (M.1 44 i0) 4 ((M.1 44 i0 4) + (1 : Int32)))
  if x1 = (1 : Int32) then
    let M5 := sR M1 44 i0 (upd (M1.1 44 i0) 5 ((M1.1 44 i0 5) + (1 : Int32)))
    if x1 = 0 then
      let M7 := sR M5 44 i0 (upd (M5.1 44 i0) 6 ((M5.1 44 i0 6) + (1 : Int32)))
      some M7
    else
      let M6 := sR M5 44 i0 (upd (M5.1 44 i0) 6 ((M5.1 44 i0 6) + (0 : Int32)))
      some M6
  else
    let M2 := sR M1 44 i0 (upd (M1.1 44 i0) 5 ((M1.1 44 i0 5) + (0 : Int32)))
    if x1 = 0 then
      let M4 := sR M2 44 i0 (upd (M2.1 44 i0) 6 ((M2.1 44 i0 6) + (1 : Int32)))
      some M4
    else
      let M3 := sR M2 44 i0 (upd (M2.1 44 i0) 6 ((M2.1 44 i0 6) + (0 : Int32)))
      some M3
set_option maxRecDepth 20000 in
set_option maxHeartbeats 2000000 in
theorem c_X4_countDay (E : wEnv) {i0 : Nat} {x1 : Int32} {M : Mem} {q : Mem} (hi0 : i0 < cnt 44) (h : f_X4_countDay i0 x1 M = some q) : Mt E yX4_countDay cX4_countDay 2 none 0 [.ref (ad E 44 i0), .int x1] M none q := by
  unfold f_X4_countDay at h
  refine mt_intro (own := RX4) (lv0 := [(0, .ref (ad E 44 i0)), (1, .int x1)]) (by decide) rfl rfl rfl (fun Y C R => ?_)
  refine g_aload_n C dX4_countDay_0 rfl rfl ?_
  refine g_dup C dX4_countDay_1 rfl ?_
  refine get_X4_25 C dX4_countDay_2 hi0 ?_
  refine g_iconst (v := (1 : Int32)) C dX4_countDay_5 (by decide) ?_
  refine g_iadd C dX4_countDay_6 ?_
  refine put_X4_25 C dX4_countDay_7 hi0 ?_
  refine g_aload_n C dX4_countDay_10 rfl rfl ?_
  refine g_dup C dX4_countDay_11 rfl ?_
  refine get_X4_28 C dX4_countDay_12 hi0 ?_
  refine g_iload_n C dX4_countDay_15 rfl rfl ?_
  refine g_iconst (v := (1 : Int32)) C dX4_countDay_16 (by decide) ?_
  refine g_icmp_ne (tgt := 24) C dX4_countDay_17 (by decide) h (fun h => ?_) (fun h => ?_)
  · refine g_iconst (v := (0 : Int32)) C dX4_countDay_24 (by decide) ?_
    refine g_iadd C dX4_countDay_25 ?_
    refine put_X4_28 C dX4_countDay_26 hi0 ?_
    refine g_aload_n C dX4_countDay_29 rfl rfl ?_
    refine g_dup C dX4_countDay_30 rfl ?_
    refine get_X4_31 C dX4_countDay_31 hi0 ?_
    refine g_iload_n C dX4_countDay_34 rfl rfl ?_
    refine g_if_ne (tgt := 42) C dX4_countDay_35 (by decide) h (fun h => ?_) (fun h => ?_)
    · refine g_iconst (v := (0 : Int32)) C dX4_countDay_42 (by decide) ?_
      refine g_iadd C dX4_countDay_43 ?_
      refine put_X4_31 C dX4_countDay_44 hi0 ?_
      exact g_vret C R dX4_countDay_47 (Option.some.inj h)
    · refine g_iconst (v := (1 : Int32)) C dX4_countDay_38 (by decide) ?_
      refine g_goto (tgt := 43) C dX4_countDay_39 (by decide) ?_
      refine g_iadd C dX4_countDay_43 ?_
      refine put_X4_31 C dX4_countDay_44 hi0 ?_
      exact g_vret C R dX4_countDay_47 (Option.some.inj h)
  · refine g_iconst (v := (1 : Int32)) C dX4_countDay_20 (by decide) ?_
    refine g_goto (tgt := 25) C dX4_countDay_21 (by decide) ?_
    refine g_iadd C dX4_countDay_25 ?_
    refine put_X4_28 C dX4_countDay_26 hi0 ?_
    refine g_aload_n C dX4_countDay_29 rfl rfl ?_
    refine g_dup C dX4_countDay_30 rfl ?_
    refine get_X4_31 C dX4_countDay_31 hi0 ?_
    refine g_iload_n C dX4_countDay_34 rfl rfl ?_
    refine g_if_ne (tgt := 42) C dX4_countDay_35 (by decide) h (fun h => ?_) (fun h => ?_)
    · refine g_iconst (v := (0 : Int32)) C dX4_countDay_42 (by decide) ?_
      refine g_iadd C dX4_countDay_43 ?_
      refine put_X4_31 C dX4_countDay_44 hi0 ?_
      exact g_vret C R dX4_countDay_47 (Option.some.inj h)
    · refine g_iconst (v := (1 : Int32)) C dX4_countDay_38 (by decide) ?_
      refine g_goto (tgt := 43) C dX4_countDay_39 (by decide) ?_
      refine g_iadd C dX4_countDay_43 ?_
      refine put_X4_31 C dX4_countDay_44 hi0 ?_
      exact g_vret C R dX4_countDay_47 (Option.some.inj h)
noncomputable def f_X4_drawBy (i0 : Nat) (x1 : Int32) (M : Mem) : Option (Int32 × Mem) :=
  let M1 := sR M 44 i0 (upd (M.1 44 i0) 1 (jrem (((M.1 44 i0 1) * (2927 : Int32)) + (10627 : Int32)) (65536 : Int32)))
  if 0 < x1 then
    if x1 = 0 then none else
    some ((jrem ((M1.1 44 i0 1) / (8 : Int32)) x1), M1)
  else
    some ((0 : Int32), M1)
set_option maxRecDepth 20000 in
set_option maxHeartbeats 2000000 in
theorem c_X4_drawBy (E : wEnv) {i0 : Nat} {x1 : Int32} {M : Mem} {q : (Int32 × Mem)} (hi0 : i0 < cnt 44) (h : f_X4_drawBy i0 x1 M = some q) : Mt E yX4_drawBy cX4_drawBy 2 (some .int) 0 [.ref (ad E 44 i0), .int x1] M (some (.int q.1)) q.2 := by
  unfold f_X4_drawBy at h
  refine mt_intro (own := RX4) (lv0 := [(0, .ref (ad E 44 i0)), (1, .int x1)]) (by decide) rfl rfl rfl (fun Y C R => ?_)
  refine g_aload_n C dX4_drawBy_0 rfl rfl ?_
  refine g_aload_n C dX4_drawBy_1 rfl rfl ?_
  refine get_X4_15 C dX4_drawBy_2 hi0 ?_
  refine g_sipush (v := (2927 : Int32)) C dX4_drawBy_5 (by decide) ?_
  refine g_imul C dX4_drawBy_8 ?_
  refine g_sipush (v := (10627 : Int32)) C dX4_drawBy_9 (by decide) ?_
  refine g_iadd C dX4_drawBy_12 ?_
  refine g_ldc C dX4_drawBy_13 qc_X4_164 ?_
  refine g_irem C dX4_drawBy_15 (by decide) ?_
  refine put_X4_15 C dX4_drawBy_16 hi0 ?_
  refine g_iload_n C dX4_drawBy_19 rfl rfl ?_
  refine g_if_le (tgt := 35) C dX4_drawBy_20 (by decide) h (fun h => ?_) (fun h => ?_)
  · refine g_iconst (v := (0 : Int32)) C dX4_drawBy_35 (by decide) ?_
    exact g_iret C R dX4_drawBy_36 (fst_of h) (snd_of h)
  · refine g_aload_n C dX4_drawBy_23 rfl rfl ?_
    refine get_X4_15 C dX4_drawBy_24 hi0 ?_
    refine g_bipush (v := (8 : Int32)) C dX4_drawBy_27 (by decide) ?_
    refine g_idiv C dX4_drawBy_29 (by decide) ?_
    refine g_iload_n C dX4_drawBy_30 rfl rfl ?_
    obtain ⟨hz2, h⟩ := of_iten h
    refine g_irem C dX4_drawBy_31 hz2 ?_
    refine g_goto (tgt := 36) C dX4_drawBy_32 (by decide) ?_
    exact g_iret C R dX4_drawBy_36 (fst_of h) (snd_of h)
noncomputable def f_X4_feelMood_2 (i0 : Nat) (i1 : Nat) (i2 : Nat) : Nat → Int32 → Mem → Option Mem
  | 0, _, _ => none
  | n + 1, x3, M =>
  if x3 < (M.1 9 i1 0) then
    (f_X3_isSeated i2 x3 M).bind fun r1 =>
    if r1 = 0 then
      f_X4_feelMood_2 i0 i1 i2 n (x3 + (1 : Int32)) M
    else
      (f_X4_drawBy i0 (9 : Int32) M).bind fun q2 =>
      (f_X3_shift i2 x3 (q2.1 - (4 : Int32)) q2.2).bind fun q3 =>
      f_X4_feelMood_2 i0 i1 i2 n (x3 + (1 : Int32)) q3.2
  else
    some M
noncomputable def f_X4_feelMood (i0 : Nat) (i1 : Nat) (i2 : Nat) (M : Mem) : Option Mem :=
  f_X4_feelMood_2 i0 i1 i2 FU (0 : Int32) M
set_option maxRecDepth 20000 in
set_option maxHeartbeats 2000000 in
theorem b_X4_feelMood_2 {E : wEnv} {Y : YT} (C : Cx E Y cX4_feelMood 4 RX4 1) {q : Mem} (R : Rx E Y none none q) {i0 : Nat} {i1 : Nat} {i2 : Nat} (hi0 : i0 < cnt 44) (hi1 : i1 < cnt 8) (hi2 : i2 < cnt 20) (n : Nat) : ∀ {x3 : Int32} {M : Mem} (_ : f_X4_feelMood_2 i0 i1 i2 n x3 M = some q), G E Y 4 M 2 [(0, .ref (ad E 44 i0)), (1, .ref (ad E 8 i1)), (2, .ref (ad E 20 i2)), (3, .int x3)] [] := by
  induction n with
  | zero =>
    intro x3 M h
    cases (show none = some q from h)
  | succ n ih =>
    intro x3 M h
    rw [f_X4_feelMood_2] at h
    refine g_iload_n C dX4_feelMood_2 rfl rfl ?_
    refine g_aload_n C dX4_feelMood_3 rfl rfl ?_
    refine get_X4_151 C dX4_feelMood_4 hi1 ?_
    refine g_iconst (v := (0 : Int32)) C dX4_feelMood_7 (by decide) ?_
    refine ld_9 (j := 0) C dX4_feelMood_8 (Nat.lt_of_lt_of_le hi1 (by decide : cnt 8 ≤ cnt 9)) (by decide) rfl ?_
    refine g_icmp_ge (tgt := 40) C dX4_feelMood_9 (by decide) h (fun h => ?_) (fun h => ?_)
    · exact g_vret C R dX4_feelMood_40 (Option.some.inj h)
    · refine g_aload_n C dX4_feelMood_12 rfl rfl ?_
      refine g_iload_n C dX4_feelMood_13 rfl rfl ?_
      obtain ⟨r1, hr1, h⟩ := Option.bind_eq_some_iff.mp h
      refine call_X4_144 C dX4_feelMood_14 hi2 (c_X3_isSeated E hi2 hr1) (by decide) rfl ?_
      refine g_if_eq (tgt := 34) C dX4_feelMood_17 (by decide) h (fun h => ?_) (fun h => ?_)
      · refine g_iinc (w := (1 : Int32)) C dX4_feelMood_34 rfl (by decide) rfl ?_
        refine g_goto (tgt := 2) C dX4_feelMood_37 (by decide) ?_
        exact g_sub (ih h) ⟨rfl, rfl, rfl, rfl, trivial⟩
      · refine g_aload_n C dX4_feelMood_20 rfl rfl ?_
        refine g_iload_n C dX4_feelMood_21 rfl rfl ?_
        refine g_aload_n C dX4_feelMood_22 rfl rfl ?_
        refine g_bipush (v := (9 : Int32)) C dX4_feelMood_23 (by decide) ?_
        obtain ⟨q2, hr2, h⟩ := Option.bind_eq_some_iff.mp h
        refine call_X4_156 C dX4_feelMood_25 hi0 (c_X4_drawBy E hi0 hr2) (by decide) rfl ?_
        refine g_iconst (v := (4 : Int32)) C dX4_feelMood_28 (by decide) ?_
        refine g_isub C dX4_feelMood_29 ?_
        obtain ⟨q3, hr3, h⟩ := Option.bind_eq_some_iff.mp h
        refine call_X4_160 C dX4_feelMood_30 hi2 (c_X3_shift E hi2 hr3) (by decide) rfl ?_
        refine g_pop C dX4_feelMood_33 rfl ?_
        refine g_iinc (w := (1 : Int32)) C dX4_feelMood_34 rfl (by decide) rfl ?_
        refine g_goto (tgt := 2) C dX4_feelMood_37 (by decide) ?_
        exact g_sub (ih h) ⟨rfl, rfl, rfl, rfl, trivial⟩
set_option maxRecDepth 20000 in
set_option maxHeartbeats 2000000 in
theorem c_X4_feelMood (E : wEnv) {i0 : Nat} {i1 : Nat} {i2 : Nat} {M : Mem} {q : Mem} (hi0 : i0 < cnt 44) (hi1 : i1 < cnt 8) (hi2 : i2 < cnt 20) (h : f_X4_feelMood i0 i1 i2 M = some q) : Mt E yX4_feelMood cX4_feelMood 4 none 1 [.ref (ad E 44 i0), .ref (ad E 8 i1), .ref (ad E 20 i2)] M none q := by
  unfold f_X4_feelMood at h
  refine mt_intro (own := RX4) (lv0 := [(0, .ref (ad E 44 i0)), (1, .ref (ad E 8 i1)), (2, .ref (ad E 20 i2))]) (by decide) rfl rfl rfl (fun Y C R => ?_)
  refine g_iconst (v := (0 : Int32)) C dX4_feelMood_0 (by decide) ?_
  refine g_istore_n C dX4_feelMood_1 rfl rfl ?_
  exact g_sub (b_X4_feelMood_2 C R hi0 hi1 hi2 _ h) ⟨rfl, rfl, rfl, rfl, trivial⟩
noncomputable def f_X4_does (i0 : Nat) (i1 : Nat) (i2 : Nat) (i3 : Nat) (x4 : Int32) (M : Mem) : Option (Int32 × Mem) :=
  if inb x4 60 = true then
   let x5_2 := (M.1 25 i2 x4.toNatClampNeg)
   if inb x4 60 = true then
    let x6_4 := (M.1 24 i2 x4.toNatClampNeg)
    (f_X4_canDo i1 i3 x6_4 x5_2 M).bind fun r5 =>
    if r5 = 0 then
      some ((0 : Int32), M)
    else
      if x6_4 = (18 : Int32) then
        (f_X3_present i3 i1 x5_2 M).bind fun q6 =>
        some ((1 : Int32), q6.2)
      else
      if x6_4 = (19 : Int32) then
        (f_X3_talkOn i3 i1 x5_2 M).bind fun M8 =>
        some ((1 : Int32), M8)
      else
      if x6_4 = (20 : Int32) then
        (f_X3_closeDay i3 i1 M).bind fun q10 =>
        (f_X4_countDay i0 q10.1 q10.2).bind fun M11 =>
        some ((1 : Int32), M11)
      else
      if x6_4 = (21 : Int32) then
        (f_X3_unseat i3 x5_2 M).bind fun M13 =>
        some ((1 : Int32), M13)
      else
      if x6_4 = (22 : Int32) then
        (f_X3_reseat i3 x5_2 M).bind fun M15 =>
        some ((1 : Int32), M15)
      else
      if x6_4 = (23 : Int32) then
        if inb x4 60 = true then
         (f_X3_buy i3 i1 x5_2 (M.1 27 i2 x4.toNatClampNeg) M).bind fun M18 =>
         some ((1 : Int32), M18)
        else none
      else
        (f_X4_feelMood i0 i1 i3 M).bind fun M20 =>
        some ((1 : Int32), M20)
   else none
  else none
set_option maxRecDepth 20000 in
set_option maxHeartbeats 2000000 in
theorem c_X4_does (E : wEnv) {i0 : Nat} {i1 : Nat} {i2 : Nat} {i3 : Nat} {x4 : Int32} {M : Mem} {q : (Int32 × Mem)} (hi0 : i0 < cnt 44) (hi1 : i1 < cnt 8) (hi2 : i2 < cnt 23) (hi3 : i3 < cnt 20) (h : f_X4_does i0 i1 i2 i3 x4 M = some q) : Mt E yX4_does cX4_does 7 (some .boolean) 5 [.ref (ad E 44 i0), .ref (ad E 8 i1), .ref (ad E 23 i2), .ref (ad E 20 i3), .int x4] M (some (.int q.1)) q.2 := by
  unfold f_X4_does at h
  refine mt_intro (own := RX4) (lv0 := [(0, .ref (ad E 44 i0)), (1, .ref (ad E 8 i1)), (2, .ref (ad E 23 i2)), (3, .ref (ad E 20 i3)), (4, .int x4)]) (by decide) rfl rfl rfl (fun Y C R => ?_)
  refine g_aload_n C dX4_does_0 rfl rfl ?_
  refine get_X4_72 C dX4_does_1 hi2 ?_
  refine g_iload C dX4_does_4 rfl ?_
  obtain ⟨hb1, h⟩ := of_ite h
  refine ld_25 (j := _) C dX4_does_6 (Nat.lt_of_lt_of_le hi2 (by decide : cnt 23 ≤ cnt 25)) hb1 rfl ?_
  refine g_istore C dX4_does_7 rfl ?_
  refine g_aload_n C dX4_does_9 rfl rfl ?_
  refine get_X4_50 C dX4_does_10 hi2 ?_
  refine g_iload C dX4_does_13 rfl ?_
  obtain ⟨hb3, h⟩ := of_ite h
  refine ld_24 (j := _) C dX4_does_15 (Nat.lt_of_lt_of_le hi2 (by decide : cnt 23 ≤ cnt 24)) hb3 rfl ?_
  refine g_istore C dX4_does_16 rfl ?_
  refine g_aload_n C dX4_does_18 rfl rfl ?_
  refine g_aload_n C dX4_does_19 rfl rfl ?_
  refine g_iload C dX4_does_20 rfl ?_
  refine g_iload C dX4_does_22 rfl ?_
  obtain ⟨r5, hr5, h⟩ := Option.bind_eq_some_iff.mp h
  refine call_X4_100 C dX4_does_24 (c_X4_canDo E hi1 hi3 hr5) (by decide) rfl ?_
  refine g_if_ne (tgt := 32) C dX4_does_27 (by decide) h (fun h => ?_) (fun h => ?_)
  · refine g_iload C dX4_does_32 rfl ?_
    rcases of_ites h with ⟨c7, h⟩ | ⟨c7, h⟩
    · refine g_tabIn (v := (18 : Int32)) (tgt := 72) C dX4_does_34 c7 (by decide) (by decide) rfl (by decide) ?_
      refine g_aload_n C dX4_does_72 rfl rfl ?_
      refine g_aload_n C dX4_does_73 rfl rfl ?_
      refine g_iload C dX4_does_74 rfl ?_
      obtain ⟨q6, hr6, h⟩ := Option.bind_eq_some_iff.mp h
      refine call_X4_104 C dX4_does_76 hi3 (c_X3_present E hi3 hi1 hr6) (by decide) rfl ?_
      refine g_pop C dX4_does_79 rfl ?_
      refine g_goto (tgt := 146) C dX4_does_80 (by decide) ?_
      refine g_iconst (v := (1 : Int32)) C dX4_does_146 (by decide) ?_
      exact g_zret C R dX4_does_147 (fst_of h) (Or.inr rfl) (snd_of h)
    · rcases of_ites h with ⟨c9, h⟩ | ⟨c9, h⟩
      · refine g_tabIn (v := (19 : Int32)) (tgt := 83) C dX4_does_34 c9 (by decide) (by decide) rfl (by decide) ?_
        refine g_aload_n C dX4_does_83 rfl rfl ?_
        refine g_aload_n C dX4_does_84 rfl rfl ?_
        refine g_iload C dX4_does_85 rfl ?_
        obtain ⟨M8, hr8, h⟩ := Option.bind_eq_some_iff.mp h
        refine call_X4_108 C dX4_does_87 hi3 (c_X3_talkOn E hi3 hi1 hr8) (by decide) rfl ?_
        refine g_goto (tgt := 146) C dX4_does_90 (by decide) ?_
        refine g_iconst (v := (1 : Int32)) C dX4_does_146 (by decide) ?_
        exact g_zret C R dX4_does_147 (fst_of h) (Or.inr rfl) (snd_of h)
      · rcases of_ites h with ⟨c12, h⟩ | ⟨c12, h⟩
        · refine g_tabIn (v := (20 : Int32)) (tgt := 93) C dX4_does_34 c12 (by decide) (by decide) rfl (by decide) ?_
          refine g_aload_n C dX4_does_93 rfl rfl ?_
          refine g_aload_n C dX4_does_94 rfl rfl ?_
          refine g_aload_n C dX4_does_95 rfl rfl ?_
          obtain ⟨q10, hr10, h⟩ := Option.bind_eq_some_iff.mp h
          refine call_X4_112 C dX4_does_96 hi3 (c_X3_closeDay E hi3 hi1 hr10) (by decide) rfl ?_
          obtain ⟨M11, hr11, h⟩ := Option.bind_eq_some_iff.mp h
          refine call_X4_116 C dX4_does_99 hi0 (c_X4_countDay E hi0 hr11) (by decide) rfl ?_
          refine g_goto (tgt := 146) C dX4_does_102 (by decide) ?_
          refine g_iconst (v := (1 : Int32)) C dX4_does_146 (by decide) ?_
          exact g_zret C R dX4_does_147 (fst_of h) (Or.inr rfl) (snd_of h)
        · rcases of_ites h with ⟨c14, h⟩ | ⟨c14, h⟩
          · refine g_tabIn (v := (21 : Int32)) (tgt := 105) C dX4_does_34 c14 (by decide) (by decide) rfl (by decide) ?_
            refine g_aload_n C dX4_does_105 rfl rfl ?_
            refine g_iload C dX4_does_106 rfl ?_
            obtain ⟨M13, hr13, h⟩ := Option.bind_eq_some_iff.mp h
            refine call_X4_120 C dX4_does_108 hi3 (c_X3_unseat E hi3 hr13) (by decide) rfl ?_
            refine g_goto (tgt := 146) C dX4_does_111 (by decide) ?_
            refine g_iconst (v := (1 : Int32)) C dX4_does_146 (by decide) ?_
            exact g_zret C R dX4_does_147 (fst_of h) (Or.inr rfl) (snd_of h)
          · rcases of_ites h with ⟨c16, h⟩ | ⟨c16, h⟩
            · refine g_tabIn (v := (22 : Int32)) (tgt := 114) C dX4_does_34 c16 (by decide) (by decide) rfl (by decide) ?_
              refine g_aload_n C dX4_does_114 rfl rfl ?_
              refine g_iload C dX4_does_115 rfl ?_
              obtain ⟨M15, hr15, h⟩ := Option.bind_eq_some_iff.mp h
              refine call_X4_123 C dX4_does_117 hi3 (c_X3_reseat E hi3 hr15) (by decide) rfl ?_
              refine g_goto (tgt := 146) C dX4_does_120 (by decide) ?_
              refine g_iconst (v := (1 : Int32)) C dX4_does_146 (by decide) ?_
              exact g_zret C R dX4_does_147 (fst_of h) (Or.inr rfl) (snd_of h)
            · rcases of_ites h with ⟨c19, h⟩ | ⟨c19, h⟩
              · refine g_tabIn (v := (23 : Int32)) (tgt := 123) C dX4_does_34 c19 (by decide) (by decide) rfl (by decide) ?_
                refine g_aload_n C dX4_does_123 rfl rfl ?_
                refine g_aload_n C dX4_does_124 rfl rfl ?_
                refine g_iload C dX4_does_125 rfl ?_
                refine g_aload_n C dX4_does_127 rfl rfl ?_
                refine get_X4_97 C dX4_does_128 hi2 ?_
                refine g_iload C dX4_does_131 rfl ?_
                obtain ⟨hb17, h⟩ := of_ite h
                refine ld_27 (j := _) C dX4_does_133 (Nat.lt_of_lt_of_le hi2 (by decide : cnt 23 ≤ cnt 27)) hb17 rfl ?_
                obtain ⟨M18, hr18, h⟩ := Option.bind_eq_some_iff.mp h
                refine call_X4_126 C dX4_does_134 hi3 (c_X3_buy E hi3 hi1 hr18) (by decide) rfl ?_
                refine g_goto (tgt := 146) C dX4_does_137 (by decide) ?_
                refine g_iconst (v := (1 : Int32)) C dX4_does_146 (by decide) ?_
                exact g_zret C R dX4_does_147 (fst_of h) (Or.inr rfl) (snd_of h)
              · refine g_tabOut (n := 6) (tgt := 140) C dX4_does_34 ⟨c7, c9, c12, c14, c16, c19, trivial⟩ (by decide) (by decide) ?_
                refine g_aload_n C dX4_does_140 rfl rfl ?_
                refine g_aload_n C dX4_does_141 rfl rfl ?_
                refine g_aload_n C dX4_does_142 rfl rfl ?_
                obtain ⟨M20, hr20, h⟩ := Option.bind_eq_some_iff.mp h
                refine call_X4_130 C dX4_does_143 hi0 (c_X4_feelMood E hi0 hi1 hi3 hr20) (by decide) rfl ?_
                refine g_iconst (v := (1 : Int32)) C dX4_does_146 (by decide) ?_
                exact g_zret C R dX4_does_147 (fst_of h) (Or.inr rfl) (snd_of h)
  · refine g_iconst (v := (0 : Int32)) C dX4_does_30 (by decide) ?_
    exact g_zret C R dX4_does_31 (fst_of h) (Or.inl rfl) (snd_of h)
noncomputable def f_X4_run_47 (i0 : Nat) (i1 : Nat) (i2 : Nat) (i4 : Nat) : Nat → Int32 → Int32 → Mem → Option Mem
  | 0, _, _, _ => none
  | n + 1, x5, x6, M =>
  if x6 < (1000000 : Int32) then
    if x5 < (M.1 23 i4 6) then
      if (M.1 44 i0 7) = 0 then
        if inb x5 60 = true then
         let x7_9 := (M.1 24 i4 x5.toNatClampNeg)
         if x7_9 = (28 : Int32) then
           (f_X4_passEnd i0 i4 x5 M).bind fun q18 =>
           f_X4_run_47 i0 i1 i2 i4 n q18.1 (x6 + (1 : Int32)) q18.2
         else
           if (M.1 44 i0 2) < (300 : Int32) then
             let M10 := sR M 44 i0 (upd (M.1 44 i0) 2 ((M.1 44 i0 2) + (1 : Int32)))
             if x7_9 = (25 : Int32) then
               (f_X4_turns i0 i4 i2 x5 M10).bind fun q11 =>
               f_X4_run_47 i0 i1 i2 i4 n q11.1 (x6 + (1 : Int32)) q11.2
             else
               if x7_9 = (27 : Int32) then
                 (f_X4_turns i0 i4 i2 x5 M10).bind fun q12 =>
                 f_X4_run_47 i0 i1 i2 i4 n q12.1 (x6 + (1 : Int32)) q12.2
               else
                 if x7_9 = (29 : Int32) then
                   (f_X4_turns i0 i4 i2 x5 M10).bind fun q16 =>
                   f_X4_run_47 i0 i1 i2 i4 n q16.1 (x6 + (1 : Int32)) q16.2
                 else
                   (f_X4_does i0 i1 i4 i2 x5 M10).bind fun q13 =>
                   if q13.1 = 0 then
                     let M14 := sR q13.2 44 i0 (upd (q13.2.1 44 i0) 3 ((M10.1 44 i0 3) + (1 : Int32)))
                     f_X4_run_47 i0 i1 i2 i4 n (x5 + (1 : Int32)) (x6 + (1 : Int32)) M14
                   else
                     let M15 := sR q13.2 44 i0 (upd (q13.2.1 44 i0) 3 ((M10.1 44 i0 3) + (0 : Int32)))
                     f_X4_run_47 i0 i1 i2 i4 n (x5 + (1 : Int32)) (x6 + (1 : Int32)) M15
           else
             let M17 := sR M 44 i0 (upd (M.1 44 i0) 7 (1 : Int32))
             f_X4_run_47 i0 i1 i2 i4 n x5 (x6 + (1 : Int32)) M17
        else none
      else
        some M
    else
      some M
  else
    some M
noncomputable def f_X4_run (i0 : Nat) (i1 : Nat) (i2 : Nat) (x3 : Int32) (M : Mem) : Option Mem :=
  let M1 := sR M 44 i0 (upd (M.1 44 i0) 1 x3)
  let M2 := sR M1 44 i0 (upd (M1.1 44 i0) 2 (0 : Int32))
  let M3 := sR M2 44 i0 (upd (M2.1 44 i0) 3 (0 : Int32))
  let M4 := sR M3 44 i0 (upd (M3.1 44 i0) 4 (0 : Int32))
  let M5 := sR M4 44 i0 (upd (M4.1 44 i0) 5 (0 : Int32))
  let M6 := sR M5 44 i0 (upd (M5.1 44 i0) 6 (0 : Int32))
  let M7 := sR M6 44 i0 (upd (M6.1 44 i0) 7 (0 : Int32))
  f_X4_run_47 i0 i1 i2 i1 FU (0 : Int32) (0 : Int32) M7
set_option maxRecDepth 20000 in
set_option maxHeartbeats 2000000 in
theorem b_X4_run_47 {E : wEnv} {Y : YT} (C : Cx E Y cX4_run 8 RX4 6) {q : Mem} (R : Rx E Y none none q) {i0 : Nat} {i1 : Nat} {i2 : Nat} {i4 : Nat} (hi0 : i0 < cnt 44) (hi1 : i1 < cnt 7) (hi2 : i2 < cnt 20) (hi4 : i4 < cnt 23) (n : Nat) : ∀ {x5 : Int32} {x6 : Int32} {M : Mem} (_ : f_X4_run_47 i0 i1 i2 i4 n x5 x6 M = some q), G E Y 8 M 47 [(0, .ref (ad E 44 i0)), (1, .ref (ad E 7 i1)), (2, .ref (ad E 20 i2)), (4, .ref (ad E 23 i4)), (5, .int x5), (6, .int x6)] [] := by
  induction n with
  | zero =>
    intro x5 x6 M h
    cases (show none = some q from h)
  | succ n ih =>
    intro x5 x6 M h
    rw [f_X4_run_47] at h
    refine g_iload C dX4_run_47 rfl ?_
    refine g_ldc C dX4_run_49 qc_X4_44 ?_
    refine g_icmp_ge (tgt := 203) C dX4_run_51 (by decide) h (fun h => ?_) (fun h => ?_)
    · exact g_vret C R dX4_run_203 (Option.some.inj h)
    · refine g_iload C dX4_run_54 rfl ?_
      refine g_aload C dX4_run_56 rfl ?_
      refine get_X4_45 C dX4_run_58 hi4 ?_
      refine g_icmp_ge (tgt := 203) C dX4_run_61 (by decide) h (fun h => ?_) (fun h => ?_)
      · exact g_vret C R dX4_run_203 (Option.some.inj h)
      · refine g_aload_n C dX4_run_64 rfl rfl ?_
        refine get_X4_34 C dX4_run_65 hi0 ?_
        refine g_if_ne (tgt := 203) C dX4_run_68 (by decide) h (fun h => ?_) (fun h => ?_)
        · exact g_vret C R dX4_run_203 (Option.some.inj h)
        · refine g_aload C dX4_run_71 rfl ?_
          refine get_X4_50 C dX4_run_73 hi4 ?_
          refine g_iload C dX4_run_76 rfl ?_
          obtain ⟨hb8, h⟩ := of_ite h
          refine ld_24 (j := _) C dX4_run_78 (Nat.lt_of_lt_of_le hi4 (by decide : cnt 23 ≤ cnt 24)) hb8 rfl ?_
          refine g_istore C dX4_run_79 rfl ?_
          refine g_iload C dX4_run_81 rfl ?_
          refine g_bipush (v := (28 : Int32)) C dX4_run_83 (by decide) ?_
          refine g_icmp_ne (tgt := 101) C dX4_run_85 (by decide) h (fun h => ?_) (fun h => ?_)
          · refine g_aload_n C dX4_run_101 rfl rfl ?_
            refine get_X4_19 C dX4_run_102 hi0 ?_
            refine g_sipush (v := (300 : Int32)) C dX4_run_105 (by decide) ?_
            refine g_icmp_lt (tgt := 119) C dX4_run_108 (by decide) h (fun h => ?_) (fun h => ?_)
            · refine g_aload_n C dX4_run_119 rfl rfl ?_
              refine g_dup C dX4_run_120 rfl ?_
              refine get_X4_19 C dX4_run_121 hi0 ?_
              refine g_iconst (v := (1 : Int32)) C dX4_run_124 (by decide) ?_
              refine g_iadd C dX4_run_125 ?_
              refine put_X4_19 C dX4_run_126 hi0 ?_
              refine g_iload C dX4_run_129 rfl ?_
              refine g_bipush (v := (25 : Int32)) C dX4_run_131 (by decide) ?_
              refine g_icmp_eq (tgt := 150) C dX4_run_133 (by decide) h (fun h => ?_) (fun h => ?_)
              · refine g_aload_n C dX4_run_150 rfl rfl ?_
                refine g_aload C dX4_run_151 rfl ?_
                refine g_aload_n C dX4_run_153 rfl rfl ?_
                refine g_iload C dX4_run_154 rfl ?_
                obtain ⟨q11, hr11, h⟩ := Option.bind_eq_some_iff.mp h
                refine call_X4_57 C dX4_run_156 hi0 (c_X4_turns E hi0 hi4 hi2 hr11) (by decide) rfl ?_
                refine g_istore C dX4_run_159 rfl ?_
                refine g_goto (tgt := 197) C dX4_run_161 (by decide) ?_
                refine g_iinc (w := (1 : Int32)) C dX4_run_197 rfl (by decide) rfl ?_
                refine g_goto (tgt := 47) C dX4_run_200 (by decide) ?_
                exact g_sub (ih h) ⟨rfl, rfl, rfl, rfl, rfl, rfl, trivial⟩
              · refine g_iload C dX4_run_136 rfl ?_
                refine g_bipush (v := (27 : Int32)) C dX4_run_138 (by decide) ?_
                refine g_icmp_eq (tgt := 150) C dX4_run_140 (by decide) h (fun h => ?_) (fun h => ?_)
                · refine g_aload_n C dX4_run_150 rfl rfl ?_
                  refine g_aload C dX4_run_151 rfl ?_
                  refine g_aload_n C dX4_run_153 rfl rfl ?_
                  refine g_iload C dX4_run_154 rfl ?_
                  obtain ⟨q12, hr12, h⟩ := Option.bind_eq_some_iff.mp h
                  refine call_X4_57 C dX4_run_156 hi0 (c_X4_turns E hi0 hi4 hi2 hr12) (by decide) rfl ?_
                  refine g_istore C dX4_run_159 rfl ?_
                  refine g_goto (tgt := 197) C dX4_run_161 (by decide) ?_
                  refine g_iinc (w := (1 : Int32)) C dX4_run_197 rfl (by decide) rfl ?_
                  refine g_goto (tgt := 47) C dX4_run_200 (by decide) ?_
                  exact g_sub (ih h) ⟨rfl, rfl, rfl, rfl, rfl, rfl, trivial⟩
                · refine g_iload C dX4_run_143 rfl ?_
                  refine g_bipush (v := (29 : Int32)) C dX4_run_145 (by decide) ?_
                  refine g_icmp_ne (tgt := 164) C dX4_run_147 (by decide) h (fun h => ?_) (fun h => ?_)
                  · refine g_aload_n C dX4_run_164 rfl rfl ?_
                    refine g_dup C dX4_run_165 rfl ?_
                    refine get_X4_22 C dX4_run_166 hi0 ?_
                    refine g_aload_n C dX4_run_169 rfl rfl ?_
                    refine g_aload_n C dX4_run_170 rfl rfl ?_
                    refine get_X4_61 C dX4_run_171 hi1 ?_
                    refine g_aload C dX4_run_174 rfl ?_
                    refine g_aload_n C dX4_run_176 rfl rfl ?_
                    refine g_iload C dX4_run_177 rfl ?_
                    obtain ⟨q13, hr13, h⟩ := Option.bind_eq_some_iff.mp h
                    refine call_X4_65 C dX4_run_179 hi0 (c_X4_does E hi0 (Nat.lt_of_lt_of_le hi1 (by decide : cnt 7 ≤ cnt 8)) hi4 hi2 hr13) (by decide) rfl ?_
                    refine g_if_eq (tgt := 189) C dX4_run_182 (by decide) h (fun h => ?_) (fun h => ?_)
                    · refine g_iconst (v := (1 : Int32)) C dX4_run_189 (by decide) ?_
                      refine g_iadd C dX4_run_190 ?_
                      refine put_X4_22 C dX4_run_191 hi0 ?_
                      refine g_iinc (w := (1 : Int32)) C dX4_run_194 rfl (by decide) rfl ?_
                      refine g_iinc (w := (1 : Int32)) C dX4_run_197 rfl (by decide) rfl ?_
                      refine g_goto (tgt := 47) C dX4_run_200 (by decide) ?_
                      exact g_sub (ih h) ⟨rfl, rfl, rfl, rfl, rfl, rfl, trivial⟩
                    · refine g_iconst (v := (0 : Int32)) C dX4_run_185 (by decide) ?_
                      refine g_goto (tgt := 190) C dX4_run_186 (by decide) ?_
                      refine g_iadd C dX4_run_190 ?_
                      refine put_X4_22 C dX4_run_191 hi0 ?_
                      refine g_iinc (w := (1 : Int32)) C dX4_run_194 rfl (by decide) rfl ?_
                      refine g_iinc (w := (1 : Int32)) C dX4_run_197 rfl (by decide) rfl ?_
                      refine g_goto (tgt := 47) C dX4_run_200 (by decide) ?_
                      exact g_sub (ih h) ⟨rfl, rfl, rfl, rfl, rfl, rfl, trivial⟩
                  · refine g_aload_n C dX4_run_150 rfl rfl ?_
                    refine g_aload C dX4_run_151 rfl ?_
                    refine g_aload_n C dX4_run_153 rfl rfl ?_
                    refine g_iload C dX4_run_154 rfl ?_
                    obtain ⟨q16, hr16, h⟩ := Option.bind_eq_some_iff.mp h
                    refine call_X4_57 C dX4_run_156 hi0 (c_X4_turns E hi0 hi4 hi2 hr16) (by decide) rfl ?_
                    refine g_istore C dX4_run_159 rfl ?_
                    refine g_goto (tgt := 197) C dX4_run_161 (by decide) ?_
                    refine g_iinc (w := (1 : Int32)) C dX4_run_197 rfl (by decide) rfl ?_
                    refine g_goto (tgt := 47) C dX4_run_200 (by decide) ?_
                    exact g_sub (ih h) ⟨rfl, rfl, rfl, rfl, rfl, rfl, trivial⟩
            · refine g_aload_n C dX4_run_111 rfl rfl ?_
              refine g_iconst (v := (1 : Int32)) C dX4_run_112 (by decide) ?_
              refine put_X4_34 C dX4_run_113 hi0 (Or.inr rfl) ?_
              refine g_goto (tgt := 197) C dX4_run_116 (by decide) ?_
              refine g_iinc (w := (1 : Int32)) C dX4_run_197 rfl (by decide) rfl ?_
              refine g_goto (tgt := 47) C dX4_run_200 (by decide) ?_
              exact g_sub (ih h) ⟨rfl, rfl, rfl, rfl, rfl, rfl, trivial⟩
          · refine g_aload_n C dX4_run_88 rfl rfl ?_
            refine g_aload C dX4_run_89 rfl ?_
            refine g_iload C dX4_run_91 rfl ?_
            obtain ⟨q18, hr18, h⟩ := Option.bind_eq_some_iff.mp h
            refine call_X4_53 C dX4_run_93 hi0 (c_X4_passEnd E hi0 hi4 hr18) (by decide) rfl ?_
            refine g_istore C dX4_run_96 rfl ?_
            refine g_goto (tgt := 197) C dX4_run_98 (by decide) ?_
            refine g_iinc (w := (1 : Int32)) C dX4_run_197 rfl (by decide) rfl ?_
            refine g_goto (tgt := 47) C dX4_run_200 (by decide) ?_
            exact g_sub (ih h) ⟨rfl, rfl, rfl, rfl, rfl, rfl, trivial⟩
set_option maxRecDepth 20000 in
set_option maxHeartbeats 2000000 in
theorem c_X4_run (E : wEnv) {i0 : Nat} {i1 : Nat} {i2 : Nat} {x3 : Int32} {M : Mem} {q : Mem} (hi0 : i0 < cnt 44) (hi1 : i1 < cnt 7) (hi2 : i2 < cnt 20) (h : f_X4_run i0 i1 i2 x3 M = some q) : Mt E yX4_run cX4_run 8 none 6 [.ref (ad E 44 i0), .ref (ad E 7 i1), .ref (ad E 20 i2), .int x3] M none q := by
  unfold f_X4_run at h
  refine mt_intro (own := RX4) (lv0 := [(0, .ref (ad E 44 i0)), (1, .ref (ad E 7 i1)), (2, .ref (ad E 20 i2)), (3, .int x3)]) (by decide) rfl rfl rfl (fun Y C R => ?_)
  refine g_aload_n C dX4_run_0 rfl rfl ?_
  refine g_iload_n C dX4_run_1 rfl rfl ?_
  refine put_X4_15 C dX4_run_2 hi0 ?_
  refine g_aload_n C dX4_run_5 rfl rfl ?_
  refine g_iconst (v := (0 : Int32)) C dX4_run_6 (by decide) ?_
  refine put_X4_19 C dX4_run_7 hi0 ?_
  refine g_aload_n C dX4_run_10 rfl rfl ?_
  refine g_iconst (v := (0 : Int32)) C dX4_run_11 (by decide) ?_
  refine put_X4_22 C dX4_run_12 hi0 ?_
  refine g_aload_n C dX4_run_15 rfl rfl ?_
  refine g_iconst (v := (0 : Int32)) C dX4_run_16 (by decide) ?_
  refine put_X4_25 C dX4_run_17 hi0 ?_
  refine g_aload_n C dX4_run_20 rfl rfl ?_
  refine g_iconst (v := (0 : Int32)) C dX4_run_21 (by decide) ?_
  refine put_X4_28 C dX4_run_22 hi0 ?_
  refine g_aload_n C dX4_run_25 rfl rfl ?_
  refine g_iconst (v := (0 : Int32)) C dX4_run_26 (by decide) ?_
  refine put_X4_31 C dX4_run_27 hi0 ?_
  refine g_aload_n C dX4_run_30 rfl rfl ?_
  refine g_iconst (v := (0 : Int32)) C dX4_run_31 (by decide) ?_
  refine put_X4_34 C dX4_run_32 hi0 (Or.inl rfl) ?_
  refine g_aload_n C dX4_run_35 rfl rfl ?_
  refine get_X4_38 C dX4_run_36 hi1 ?_
  refine g_astore C dX4_run_39 rfl ?_
  refine g_iconst (v := (0 : Int32)) C dX4_run_41 (by decide) ?_
  refine g_istore C dX4_run_42 rfl ?_
  refine g_iconst (v := (0 : Int32)) C dX4_run_44 (by decide) ?_
  refine g_istore C dX4_run_45 rfl ?_
  exact g_sub (b_X4_run_47 C R hi0 hi1 hi2 (Nat.lt_of_lt_of_le hi1 (by decide : cnt 7 ≤ cnt 23)) _ h) ⟨rfl, rfl, rfl, rfl, rfl, rfl, trivial⟩
noncomputable def f_X5_hasRoom (x1 : Int32) (M : Mem) : Option Int32 :=
  if (900 : Int32) < ((M.1 30 0 2) + x1) then
    some (0 : Int32)
  else
    some (1 : Int32)
set_option maxRecDepth 20000 in
set_option maxHeartbeats 2000000 in
theorem c_X5_hasRoom (E : wEnv) {x1 : Int32} {M : Mem} {q : Int32} (h : f_X5_hasRoom x1 M = some q) : Mt E yX5_hasRoom cX5_hasRoom 2 (some .boolean) 0 [.ref (ad E 30 0), .int x1] M (some (.int q)) M := by
  unfold f_X5_hasRoom at h
  refine mt_intro (own := RX5) (lv0 := [(0, .ref (ad E 30 0)), (1, .int x1)]) (by decide) rfl rfl rfl (fun Y C R => ?_)
  refine g_aload_n C dX5_hasRoom_0 rfl rfl ?_
  refine get_X5_19 C dX5_hasRoom_1 (by decide) ?_
  refine g_iload_n C dX5_hasRoom_4 rfl rfl ?_
  refine g_iadd C dX5_hasRoom_5 ?_
  refine g_sipush (v := (900 : Int32)) C dX5_hasRoom_6 (by decide) ?_
  refine g_icmp_gt (tgt := 16) C dX5_hasRoom_9 (by decide) h (fun h => ?_) (fun h => ?_)
  · refine g_iconst (v := (0 : Int32)) C dX5_hasRoom_16 (by decide) ?_
    exact g_zret C R dX5_hasRoom_17 (Option.some.inj h) (Or.inl rfl) rfl
  · refine g_iconst (v := (1 : Int32)) C dX5_hasRoom_12 (by decide) ?_
    refine g_goto (tgt := 17) C dX5_hasRoom_13 (by decide) ?_
    exact g_zret C R dX5_hasRoom_17 (Option.some.inj h) (Or.inr rfl) rfl
noncomputable def f_X5_append_3 (x1 : Int32) : Nat → Int32 → Mem → Option Mem
  | 0, _, _ => none
  | n + 1, x2, M =>
  if x2 < 0 then
    some M
  else
    if (M.1 30 0 2) < (900 : Int32) then
      if inb (M.1 30 0 2) 900 = true then
       let M2 := sR M 31 0 (upd (M.1 31 0) ((M.1 30 0 2).toNatClampNeg) (((x1 >>> (x2 &&& 31)).toInt8.toInt32).toInt8.toInt32))
       let M3 := sR M2 30 0 (upd (M2.1 30 0) 2 ((M2.1 30 0 2) + (1 : Int32)))
       f_X5_append_3 x1 n (x2 + (-8 : Int32)) M3
      else none
    else
      some M
noncomputable def f_X5_append (x1 : Int32) (M : Mem) : Option Mem :=
  f_X5_append_3 x1 FU (24 : Int32) M
set_option maxRecDepth 20000 in
set_option maxHeartbeats 2000000 in
theorem b_X5_append_3 {E : wEnv} {Y : YT} (C : Cx E Y cX5_append 3 RX5 0) {q : Mem} (R : Rx E Y none none q) {x1 : Int32} (n : Nat) : ∀ {x2 : Int32} {M : Mem} (_ : f_X5_append_3 x1 n x2 M = some q), G E Y 3 M 3 [(0, .ref (ad E 30 0)), (1, .int x1), (2, .int x2)] [] := by
  induction n with
  | zero =>
    intro x2 M h
    cases (show none = some q from h)
  | succ n ih =>
    intro x2 M h
    rw [f_X5_append_3] at h
    refine g_iload_n C dX5_append_3 rfl rfl ?_
    refine g_if_lt (tgt := 46) C dX5_append_4 (by decide) h (fun h => ?_) (fun h => ?_)
    · exact g_vret C R dX5_append_46 (Option.some.inj h)
    · refine g_aload_n C dX5_append_7 rfl rfl ?_
      refine get_X5_19 C dX5_append_8 (by decide) ?_
      refine g_sipush (v := (900 : Int32)) C dX5_append_11 (by decide) ?_
      refine g_icmp_ge (tgt := 46) C dX5_append_14 (by decide) h (fun h => ?_) (fun h => ?_)
      · exact g_vret C R dX5_append_46 (Option.some.inj h)
      · refine g_aload_n C dX5_append_17 rfl rfl ?_
        refine get_X5_9 C dX5_append_18 (by decide) ?_
        refine g_aload_n C dX5_append_21 rfl rfl ?_
        refine get_X5_19 C dX5_append_22 (by decide) ?_
        refine g_iload_n C dX5_append_25 rfl rfl ?_
        refine g_iload_n C dX5_append_26 rfl rfl ?_
        refine g_ishr C dX5_append_27 ?_
        refine g_i2b C dX5_append_28 ?_
        obtain ⟨hb1, h⟩ := of_ite h
        refine st_31 (j := _) C dX5_append_29 (by decide) hb1 rfl ?_
        refine g_aload_n C dX5_append_30 rfl rfl ?_
        refine g_dup C dX5_append_31 rfl ?_
        refine get_X5_19 C dX5_append_32 (by decide) ?_
        refine g_iconst (v := (1 : Int32)) C dX5_append_35 (by decide) ?_
        refine g_iadd C dX5_append_36 ?_
        refine put_X5_19 C dX5_append_37 (by decide) ?_
        refine g_iinc (w := (-8 : Int32)) C dX5_append_40 rfl (by decide) rfl ?_
        refine g_goto (tgt := 3) C dX5_append_43 (by decide) ?_
        exact g_sub (ih h) ⟨rfl, rfl, rfl, trivial⟩
set_option maxRecDepth 20000 in
set_option maxHeartbeats 2000000 in
theorem c_X5_append (E : wEnv) {x1 : Int32} {M : Mem} {q : Mem} (h : f_X5_append x1 M = some q) : Mt E yX5_append cX5_append 3 none 0 [.ref (ad E 30 0), .int x1] M none q := by
  unfold f_X5_append at h
  refine mt_intro (own := RX5) (lv0 := [(0, .ref (ad E 30 0)), (1, .int x1)]) (by decide) rfl rfl rfl (fun Y C R => ?_)
  refine g_bipush (v := (24 : Int32)) C dX5_append_0 (by decide) ?_
  refine g_istore_n C dX5_append_2 rfl rfl ?_
  exact g_sub (b_X5_append_3 C R _ h) ⟨rfl, rfl, rfl, trivial⟩
