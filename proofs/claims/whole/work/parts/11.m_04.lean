noncomputable def f_X10_lived (x1 : Int32) (M : Mem) : Option (Int32 × Mem) :=
  if x1 < 0 then
    (f_X10_none (5 : Int32) M).bind fun q1 =>
    some (q1.1, q1.2)
  else
    if (4 : Int32) < x1 then
      (f_X10_none (5 : Int32) M).bind fun q13 =>
      some (q13.1, q13.2)
    else
      if (M.1 0 0 12) = 0 then
        (f_X10_none (8 : Int32) M).bind fun q12 =>
        some (q12.1, q12.2)
      else
        if x1 = (0 : Int32) then
          (f_X10_answer (M.1 44 0 3) M).bind fun q2 =>
          some (q2.1, q2.2)
        else
        if x1 = (1 : Int32) then
          (f_X10_answer (M.1 44 0 4) M).bind fun q4 =>
          some (q4.1, q4.2)
        else
        if x1 = (2 : Int32) then
          (f_X10_answer (M.1 44 0 5) M).bind fun q6 =>
          some (q6.1, q6.2)
        else
        if x1 = (3 : Int32) then
          (f_X10_answer (M.1 44 0 6) M).bind fun q8 =>
          some (q8.1, q8.2)
        else
          if (M.1 44 0 7) = 0 then
            (f_X10_answer (0 : Int32) M).bind fun q10 =>
            some (q10.1, q10.2)
          else
            (f_X10_answer (1 : Int32) M).bind fun q11 =>
            some (q11.1, q11.2)
set_option maxRecDepth 20000 in
set_option maxHeartbeats 2000000 in
theorem c_X10_lived (E : wEnv) {x1 : Int32} {M : Mem} {q : (Int32 × Mem)} (h : f_X10_lived x1 M = some q) : Mt E yX10_lived cX10_lived 2 (some .int) 1 [.ref (ad E 0 0), .int x1] M (some (.int q.1)) q.2 := by
  unfold f_X10_lived at h
  refine mt_intro (own := RX10) (lv0 := [(0, .ref (ad E 0 0)), (1, .int x1)]) (by decide) rfl rfl rfl (fun Y C R => ?_)
  refine g_iload_n C dX10_lived_0 rfl rfl ?_
  refine g_if_lt (tgt := 9) C dX10_lived_1 (by decide) h (fun h => ?_) (fun h => ?_)
  · refine g_aload_n C dX10_lived_9 rfl rfl ?_
    refine g_iconst (v := (5 : Int32)) C dX10_lived_10 (by decide) ?_
    obtain ⟨q1, hr1, h⟩ := Option.bind_eq_some_iff.mp h
    refine call_X10_133 C dX10_lived_11 (by decide) (c_X10_none E hr1) (by decide) rfl ?_
    exact g_iret C R dX10_lived_14 (fst_of h) (snd_of h)
  · refine g_iload_n C dX10_lived_4 rfl rfl ?_
    refine g_iconst (v := (4 : Int32)) C dX10_lived_5 (by decide) ?_
    refine g_icmp_le (tgt := 15) C dX10_lived_6 (by decide) h (fun h => ?_) (fun h => ?_)
    · refine g_aload_n C dX10_lived_15 rfl rfl ?_
      refine get_X10_86 C dX10_lived_16 (by decide) ?_
      refine g_if_ne (tgt := 29) C dX10_lived_19 (by decide) h (fun h => ?_) (fun h => ?_)
      · refine g_iload_n C dX10_lived_29 rfl rfl ?_
        rcases of_ites h with ⟨c3, h⟩ | ⟨c3, h⟩
        · refine g_tabIn (v := (0 : Int32)) (tgt := 60) C dX10_lived_30 c3 (by decide) (by decide) rfl (by decide) ?_
          refine g_aload_n C dX10_lived_60 rfl rfl ?_
          refine g_aload_n C dX10_lived_61 rfl rfl ?_
          refine get_X10_79 C dX10_lived_62 (by decide) ?_
          refine get_X10_419 C dX10_lived_65 (by decide) ?_
          obtain ⟨q2, hr2, h⟩ := Option.bind_eq_some_iff.mp h
          refine call_X10_197 C dX10_lived_68 (by decide) (c_X10_answer E hr2) (by decide) rfl ?_
          exact g_iret C R dX10_lived_71 (fst_of h) (snd_of h)
        · rcases of_ites h with ⟨c5, h⟩ | ⟨c5, h⟩
          · refine g_tabIn (v := (1 : Int32)) (tgt := 72) C dX10_lived_30 c5 (by decide) (by decide) rfl (by decide) ?_
            refine g_aload_n C dX10_lived_72 rfl rfl ?_
            refine g_aload_n C dX10_lived_73 rfl rfl ?_
            refine get_X10_79 C dX10_lived_74 (by decide) ?_
            refine get_X10_422 C dX10_lived_77 (by decide) ?_
            obtain ⟨q4, hr4, h⟩ := Option.bind_eq_some_iff.mp h
            refine call_X10_197 C dX10_lived_80 (by decide) (c_X10_answer E hr4) (by decide) rfl ?_
            exact g_iret C R dX10_lived_83 (fst_of h) (snd_of h)
          · rcases of_ites h with ⟨c7, h⟩ | ⟨c7, h⟩
            · refine g_tabIn (v := (2 : Int32)) (tgt := 84) C dX10_lived_30 c7 (by decide) (by decide) rfl (by decide) ?_
              refine g_aload_n C dX10_lived_84 rfl rfl ?_
              refine g_aload_n C dX10_lived_85 rfl rfl ?_
              refine get_X10_79 C dX10_lived_86 (by decide) ?_
              refine get_X10_425 C dX10_lived_89 (by decide) ?_
              obtain ⟨q6, hr6, h⟩ := Option.bind_eq_some_iff.mp h
              refine call_X10_197 C dX10_lived_92 (by decide) (c_X10_answer E hr6) (by decide) rfl ?_
              exact g_iret C R dX10_lived_95 (fst_of h) (snd_of h)
            · rcases of_ites h with ⟨c9, h⟩ | ⟨c9, h⟩
              · refine g_tabIn (v := (3 : Int32)) (tgt := 96) C dX10_lived_30 c9 (by decide) (by decide) rfl (by decide) ?_
                refine g_aload_n C dX10_lived_96 rfl rfl ?_
                refine g_aload_n C dX10_lived_97 rfl rfl ?_
                refine get_X10_79 C dX10_lived_98 (by decide) ?_
                refine get_X10_428 C dX10_lived_101 (by decide) ?_
                obtain ⟨q8, hr8, h⟩ := Option.bind_eq_some_iff.mp h
                refine call_X10_197 C dX10_lived_104 (by decide) (c_X10_answer E hr8) (by decide) rfl ?_
                exact g_iret C R dX10_lived_107 (fst_of h) (snd_of h)
              · refine g_tabOut (n := 4) (tgt := 108) C dX10_lived_30 ⟨c3, c5, c7, c9, trivial⟩ (by decide) (by decide) ?_
                refine g_aload_n C dX10_lived_108 rfl rfl ?_
                refine g_aload_n C dX10_lived_109 rfl rfl ?_
                refine get_X10_79 C dX10_lived_110 (by decide) ?_
                refine get_X10_431 C dX10_lived_113 (by decide) ?_
                refine g_if_eq (tgt := 123) C dX10_lived_116 (by decide) h (fun h => ?_) (fun h => ?_)
                · refine g_iconst (v := (0 : Int32)) C dX10_lived_123 (by decide) ?_
                  obtain ⟨q10, hr10, h⟩ := Option.bind_eq_some_iff.mp h
                  refine call_X10_197 C dX10_lived_124 (by decide) (c_X10_answer E hr10) (by decide) rfl ?_
                  exact g_iret C R dX10_lived_127 (fst_of h) (snd_of h)
                · refine g_iconst (v := (1 : Int32)) C dX10_lived_119 (by decide) ?_
                  refine g_goto (tgt := 124) C dX10_lived_120 (by decide) ?_
                  obtain ⟨q11, hr11, h⟩ := Option.bind_eq_some_iff.mp h
                  refine call_X10_197 C dX10_lived_124 (by decide) (c_X10_answer E hr11) (by decide) rfl ?_
                  exact g_iret C R dX10_lived_127 (fst_of h) (snd_of h)
      · refine g_aload_n C dX10_lived_22 rfl rfl ?_
        refine g_bipush (v := (8 : Int32)) C dX10_lived_23 (by decide) ?_
        obtain ⟨q12, hr12, h⟩ := Option.bind_eq_some_iff.mp h
        refine call_X10_133 C dX10_lived_25 (by decide) (c_X10_none E hr12) (by decide) rfl ?_
        exact g_iret C R dX10_lived_28 (fst_of h) (snd_of h)
    · refine g_aload_n C dX10_lived_9 rfl rfl ?_
      refine g_iconst (v := (5 : Int32)) C dX10_lived_10 (by decide) ?_
      obtain ⟨q13, hr13, h⟩ := Option.bind_eq_some_iff.mp h
      refine call_X10_133 C dX10_lived_11 (by decide) (c_X10_none E hr13) (by decide) rfl ?_
      exact g_iret C R dX10_lived_14 (fst_of h) (snd_of h)
noncomputable def f_X10_mean_76 (x1 : Int32) (x2 : Int32) (x3 : Int32) : Nat → Int64 → Int32 → Mem → Option (Int32 × Mem)
  | 0, _, _, _ => none
  | n + 1, l4, x6, M =>
  if x6 < x3 then
    (f_X3_copyFrom 4 0 M).bind fun M13 =>
    (f_X4_run 1 0 4 (x2 + x6) M13).bind fun M14 =>
    if inb x1 4 = true then
     let l4_16 := (l4 + (M14.1 22 4 x1.toNatClampNeg).toInt64)
     f_X10_mean_76 x1 x2 x3 n l4_16 (x6 + (1 : Int32)) M14
    else none
  else
    (f_X10_tellFraction l4 x3.toInt64 M).bind fun M10 =>
    (f_X10_agree M10).bind fun q11 =>
    if isB q11.1 = true then some (q11.1, q11.2) else none
noncomputable def f_X10_mean (x1 : Int32) (x2 : Int32) (x3 : Int32) (M : Mem) : Option (Int32 × Mem) :=
  (f_X10_isNo (3 : Int32) x1 M).bind fun r1 =>
  if r1 = 0 then
    if x3 < (1 : Int32) then
      (f_X10_refuse (5 : Int32) M).bind fun q2 =>
      if isB q2.1 = true then some (q2.1, q2.2) else none
    else
      if (20 : Int32) < x3 then
        (f_X10_refuse (5 : Int32) M).bind fun q4 =>
        if isB q4.1 = true then some (q4.1, q4.2) else none
      else
        (f_X10_isNoSeed x2).bind fun r6 =>
        if r6 = 0 then
          (f_X10_isNoSeed ((x2 + x3) - (1 : Int32))).bind fun r9 =>
          if r9 = 0 then
            if (M.1 23 0 8) = 0 then
              (f_X10_refuse (8 : Int32) M).bind fun q17 =>
              if isB q17.1 = true then some (q17.1, q17.2) else none
            else
              f_X10_mean_76 x1 x2 x3 FU (0 : Int64) (0 : Int32) M
          else
            (f_X10_refuse (5 : Int32) M).bind fun q19 =>
            if isB q19.1 = true then some (q19.1, q19.2) else none
        else
          (f_X10_refuse (5 : Int32) M).bind fun q7 =>
          if isB q7.1 = true then some (q7.1, q7.2) else none
  else
    (f_X10_refuse (2 : Int32) M).bind fun q21 =>
    if isB q21.1 = true then some (q21.1, q21.2) else none
set_option maxRecDepth 20000 in
set_option maxHeartbeats 2000000 in
theorem b_X10_mean_76 {E : wEnv} {Y : YT} (C : Cx E Y cX10_mean 7 RX10 7) {q : (Int32 × Mem)} (R : Rx E Y (some .boolean) (some (.int q.1)) q.2) {x1 : Int32} {x2 : Int32} {x3 : Int32} (n : Nat) : ∀ {l4 : Int64} {x6 : Int32} {M : Mem} (_ : f_X10_mean_76 x1 x2 x3 n l4 x6 M = some q), G E Y 7 M 76 [(0, .ref (ad E 0 0)), (1, .int x1), (2, .int x2), (3, .int x3), (4, .long l4), (6, .int x6)] [] := by
  induction n with
  | zero =>
    intro l4 x6 M h
    cases (show none = some q from h)
  | succ n ih =>
    intro l4 x6 M h
    rw [f_X10_mean_76] at h
    refine g_iload C dX10_mean_76 rfl ?_
    refine g_iload_n C dX10_mean_78 rfl rfl ?_
    refine g_icmp_ge (tgt := 136) C dX10_mean_79 (by decide) h (fun h => ?_) (fun h => ?_)
    · refine g_aload_n C dX10_mean_136 rfl rfl ?_
      refine g_lload C dX10_mean_137 rfl ?_
      refine g_iload_n C dX10_mean_139 rfl rfl ?_
      refine g_i2l C dX10_mean_140 ?_
      obtain ⟨M10, hr10, h⟩ := Option.bind_eq_some_iff.mp h
      refine call_X10_386 C dX10_mean_141 (by decide) (c_X10_tellFraction E hr10) (by decide) rfl ?_
      refine g_aload_n C dX10_mean_144 rfl rfl ?_
      obtain ⟨q11, hr11, h⟩ := Option.bind_eq_some_iff.mp h
      refine call_X10_121 C dX10_mean_145 (by decide) (c_X10_agree E hr11) (by decide) rfl ?_
      obtain ⟨hz12, h⟩ := of_ite h
      exact g_zret C R dX10_mean_148 (fst_of h) (isB_of hz12) (snd_of h)
    · refine g_aload_n C dX10_mean_82 rfl rfl ?_
      refine get_X10_72 C dX10_mean_83 (by decide) ?_
      refine g_aload_n C dX10_mean_86 rfl rfl ?_
      refine get_X10_19 C dX10_mean_87 (by decide) ?_
      refine get_X10_182 C dX10_mean_90 (by decide) ?_
      obtain ⟨M13, hr13, h⟩ := Option.bind_eq_some_iff.mp h
      refine call_X10_324 C dX10_mean_93 (by decide) (c_X3_copyFrom E (by decide) (by decide) hr13) (by decide) rfl ?_
      refine g_aload_n C dX10_mean_96 rfl rfl ?_
      refine get_X10_83 C dX10_mean_97 (by decide) ?_
      refine g_aload_n C dX10_mean_100 rfl rfl ?_
      refine get_X10_19 C dX10_mean_101 (by decide) ?_
      refine g_aload_n C dX10_mean_104 rfl rfl ?_
      refine get_X10_72 C dX10_mean_105 (by decide) ?_
      refine g_iload_n C dX10_mean_108 rfl rfl ?_
      refine g_iload C dX10_mean_109 rfl ?_
      refine g_iadd C dX10_mean_111 ?_
      obtain ⟨M14, hr14, h⟩ := Option.bind_eq_some_iff.mp h
      refine call_X10_414 C dX10_mean_112 (by decide) (c_X4_run E (by decide) (by decide) (by decide) hr14) (by decide) rfl ?_
      refine g_lload C dX10_mean_115 rfl ?_
      refine g_aload_n C dX10_mean_117 rfl rfl ?_
      refine get_X10_72 C dX10_mean_118 (by decide) ?_
      refine get_X10_269 C dX10_mean_121 (by decide) ?_
      refine g_iload_n C dX10_mean_124 rfl rfl ?_
      obtain ⟨hb15, h⟩ := of_ite h
      refine ld_22 (j := _) C dX10_mean_125 (by decide) hb15 rfl ?_
      refine g_i2l C dX10_mean_126 ?_
      refine g_ladd C dX10_mean_127 ?_
      refine g_lstore C dX10_mean_128 rfl ?_
      refine g_iinc (w := (1 : Int32)) C dX10_mean_130 rfl (by decide) rfl ?_
      refine g_goto (tgt := 76) C dX10_mean_133 (by decide) ?_
      exact g_sub (ih h) ⟨rfl, rfl, rfl, rfl, rfl, rfl, trivial⟩
set_option maxRecDepth 20000 in
set_option maxHeartbeats 2000000 in
theorem c_X10_mean (E : wEnv) {x1 : Int32} {x2 : Int32} {x3 : Int32} {M : Mem} {q : (Int32 × Mem)} (h : f_X10_mean x1 x2 x3 M = some q) : Mt E yX10_mean cX10_mean 7 (some .boolean) 7 [.ref (ad E 0 0), .int x1, .int x2, .int x3] M (some (.int q.1)) q.2 := by
  unfold f_X10_mean at h
  refine mt_intro (own := RX10) (lv0 := [(0, .ref (ad E 0 0)), (1, .int x1), (2, .int x2), (3, .int x3)]) (by decide) rfl rfl rfl (fun Y C R => ?_)
  refine g_aload_n C dX10_mean_0 rfl rfl ?_
  refine g_iconst (v := (3 : Int32)) C dX10_mean_1 (by decide) ?_
  refine g_iload_n C dX10_mean_2 rfl rfl ?_
  obtain ⟨r1, hr1, h⟩ := Option.bind_eq_some_iff.mp h
  refine call_X10_237 C dX10_mean_3 (by decide) (c_X10_isNo E hr1) (by decide) rfl ?_
  refine g_if_eq (tgt := 15) C dX10_mean_6 (by decide) h (fun h => ?_) (fun h => ?_)
  · refine g_iload_n C dX10_mean_15 rfl rfl ?_
    refine g_iconst (v := (1 : Int32)) C dX10_mean_16 (by decide) ?_
    refine g_icmp_lt (tgt := 44) C dX10_mean_17 (by decide) h (fun h => ?_) (fun h => ?_)
    · refine g_aload_n C dX10_mean_44 rfl rfl ?_
      refine g_iconst (v := (5 : Int32)) C dX10_mean_45 (by decide) ?_
      obtain ⟨q2, hr2, h⟩ := Option.bind_eq_some_iff.mp h
      refine call_X10_114 C dX10_mean_46 (by decide) (c_X10_refuse E hr2) (by decide) rfl ?_
      obtain ⟨hz3, h⟩ := of_ite h
      exact g_zret C R dX10_mean_49 (fst_of h) (isB_of hz3) (snd_of h)
    · refine g_iload_n C dX10_mean_20 rfl rfl ?_
      refine g_bipush (v := (20 : Int32)) C dX10_mean_21 (by decide) ?_
      refine g_icmp_gt (tgt := 44) C dX10_mean_23 (by decide) h (fun h => ?_) (fun h => ?_)
      · refine g_aload_n C dX10_mean_44 rfl rfl ?_
        refine g_iconst (v := (5 : Int32)) C dX10_mean_45 (by decide) ?_
        obtain ⟨q4, hr4, h⟩ := Option.bind_eq_some_iff.mp h
        refine call_X10_114 C dX10_mean_46 (by decide) (c_X10_refuse E hr4) (by decide) rfl ?_
        obtain ⟨hz5, h⟩ := of_ite h
        exact g_zret C R dX10_mean_49 (fst_of h) (isB_of hz5) (snd_of h)
      · refine g_iload_n C dX10_mean_26 rfl rfl ?_
        obtain ⟨r6, hr6, h⟩ := Option.bind_eq_some_iff.mp h
        refine call_X10_408 C dX10_mean_27 (c_X10_isNoSeed E hr6) (by decide) rfl ?_
        refine g_if_ne (tgt := 44) C dX10_mean_30 (by decide) h (fun h => ?_) (fun h => ?_)
        · refine g_aload_n C dX10_mean_44 rfl rfl ?_
          refine g_iconst (v := (5 : Int32)) C dX10_mean_45 (by decide) ?_
          obtain ⟨q7, hr7, h⟩ := Option.bind_eq_some_iff.mp h
          refine call_X10_114 C dX10_mean_46 (by decide) (c_X10_refuse E hr7) (by decide) rfl ?_
          obtain ⟨hz8, h⟩ := of_ite h
          exact g_zret C R dX10_mean_49 (fst_of h) (isB_of hz8) (snd_of h)
        · refine g_iload_n C dX10_mean_33 rfl rfl ?_
          refine g_iload_n C dX10_mean_34 rfl rfl ?_
          refine g_iadd C dX10_mean_35 ?_
          refine g_iconst (v := (1 : Int32)) C dX10_mean_36 (by decide) ?_
          refine g_isub C dX10_mean_37 ?_
          obtain ⟨r9, hr9, h⟩ := Option.bind_eq_some_iff.mp h
          refine call_X10_408 C dX10_mean_38 (c_X10_isNoSeed E hr9) (by decide) rfl ?_
          refine g_if_eq (tgt := 50) C dX10_mean_41 (by decide) h (fun h => ?_) (fun h => ?_)
          · refine g_aload_n C dX10_mean_50 rfl rfl ?_
            refine get_X10_19 C dX10_mean_51 (by decide) ?_
            refine get_X10_188 C dX10_mean_54 (by decide) ?_
            refine get_X10_411 C dX10_mean_57 (by decide) ?_
            refine g_if_ne (tgt := 70) C dX10_mean_60 (by decide) h (fun h => ?_) (fun h => ?_)
            · refine g_lconst (v := (0 : Int64)) C dX10_mean_70 (by decide) ?_
              refine g_lstore C dX10_mean_71 rfl ?_
              refine g_iconst (v := (0 : Int32)) C dX10_mean_73 (by decide) ?_
              refine g_istore C dX10_mean_74 rfl ?_
              exact g_sub (b_X10_mean_76 C R _ h) ⟨rfl, rfl, rfl, rfl, rfl, rfl, trivial⟩
            · refine g_aload_n C dX10_mean_63 rfl rfl ?_
              refine g_bipush (v := (8 : Int32)) C dX10_mean_64 (by decide) ?_
              obtain ⟨q17, hr17, h⟩ := Option.bind_eq_some_iff.mp h
              refine call_X10_114 C dX10_mean_66 (by decide) (c_X10_refuse E hr17) (by decide) rfl ?_
              obtain ⟨hz18, h⟩ := of_ite h
              exact g_zret C R dX10_mean_69 (fst_of h) (isB_of hz18) (snd_of h)
          · refine g_aload_n C dX10_mean_44 rfl rfl ?_
            refine g_iconst (v := (5 : Int32)) C dX10_mean_45 (by decide) ?_
            obtain ⟨q19, hr19, h⟩ := Option.bind_eq_some_iff.mp h
            refine call_X10_114 C dX10_mean_46 (by decide) (c_X10_refuse E hr19) (by decide) rfl ?_
            obtain ⟨hz20, h⟩ := of_ite h
            exact g_zret C R dX10_mean_49 (fst_of h) (isB_of hz20) (snd_of h)
  · refine g_aload_n C dX10_mean_9 rfl rfl ?_
    refine g_iconst (v := (2 : Int32)) C dX10_mean_10 (by decide) ?_
    obtain ⟨q21, hr21, h⟩ := Option.bind_eq_some_iff.mp h
    refine call_X10_114 C dX10_mean_11 (by decide) (c_X10_refuse E hr21) (by decide) rfl ?_
    obtain ⟨hz22, h⟩ := of_ite h
    exact g_zret C R dX10_mean_14 (fst_of h) (isB_of hz22) (snd_of h)
noncomputable def f_X10_mark (M : Mem) : Option (Int32 × Mem) :=
  if (M.1 0 0 13) < (3 : Int32) then
    if inb (M.1 0 0 13) 3 = true then
     (f_X9_copyFrom (((M.1 0 0 13).toNatClampNeg) + 1) 0 M).bind fun M2 =>
     let M3 := sR M2 0 0 (upd (M2.1 0 0) 13 ((M2.1 0 0 13) + (1 : Int32)))
     (f_X10_answer (M3.1 0 0 13) M3).bind fun q4 =>
     some (q4.1, q4.2)
    else none
  else
    (f_X10_none (7 : Int32) M).bind fun q5 =>
    some (q5.1, q5.2)
set_option maxRecDepth 20000 in
set_option maxHeartbeats 2000000 in
theorem c_X10_mark (E : wEnv) {M : Mem} {q : (Int32 × Mem)} (h : f_X10_mark M = some q) : Mt E yX10_mark cX10_mark 1 (some .int) 3 [.ref (ad E 0 0)] M (some (.int q.1)) q.2 := by
  unfold f_X10_mark at h
  refine mt_intro (own := RX10) (lv0 := [(0, .ref (ad E 0 0))]) (by decide) rfl rfl rfl (fun Y C R => ?_)
  refine g_aload_n C dX10_mark_0 rfl rfl ?_
  refine get_X10_90 C dX10_mark_1 (by decide) ?_
  refine g_iconst (v := (3 : Int32)) C dX10_mark_4 (by decide) ?_
  refine g_icmp_lt (tgt := 15) C dX10_mark_5 (by decide) h (fun h => ?_) (fun h => ?_)
  · refine g_aload_n C dX10_mark_15 rfl rfl ?_
    refine get_X10_23 C dX10_mark_16 (by decide) ?_
    refine g_aload_n C dX10_mark_19 rfl rfl ?_
    refine get_X10_90 C dX10_mark_20 (by decide) ?_
    obtain ⟨hb1, h⟩ := of_ite h
    refine ld_1 (j := _) C dX10_mark_23 (by decide) hb1 rfl ?_
    refine g_aload_n C dX10_mark_24 rfl rfl ?_
    refine get_X10_19 C dX10_mark_25 (by decide) ?_
    obtain ⟨M2, hr2, h⟩ := Option.bind_eq_some_iff.mp h
    refine call_X10_434 C dX10_mark_28 (inb_add hb1 (by decide)) (c_X9_copyFrom E (inb_add hb1 (by decide)) (by decide) hr2) (by decide) rfl ?_
    refine g_aload_n C dX10_mark_31 rfl rfl ?_
    refine g_dup C dX10_mark_32 rfl ?_
    refine get_X10_90 C dX10_mark_33 (by decide) ?_
    refine g_iconst (v := (1 : Int32)) C dX10_mark_36 (by decide) ?_
    refine g_iadd C dX10_mark_37 ?_
    refine put_X10_90 C dX10_mark_38 (by decide) ?_
    refine g_aload_n C dX10_mark_41 rfl rfl ?_
    refine g_aload_n C dX10_mark_42 rfl rfl ?_
    refine get_X10_90 C dX10_mark_43 (by decide) ?_
    obtain ⟨q4, hr4, h⟩ := Option.bind_eq_some_iff.mp h
    refine call_X10_197 C dX10_mark_46 (by decide) (c_X10_answer E hr4) (by decide) rfl ?_
    exact g_iret C R dX10_mark_49 (fst_of h) (snd_of h)
  · refine g_aload_n C dX10_mark_8 rfl rfl ?_
    refine g_bipush (v := (7 : Int32)) C dX10_mark_9 (by decide) ?_
    obtain ⟨q5, hr5, h⟩ := Option.bind_eq_some_iff.mp h
    refine call_X10_133 C dX10_mark_11 (by decide) (c_X10_none E hr5) (by decide) rfl ?_
    exact g_iret C R dX10_mark_14 (fst_of h) (snd_of h)
noncomputable def f_X10_back (M : Mem) : Option (Int32 × Mem) :=
  if 0 < (M.1 0 0 13) then
    let M1 := sR M 0 0 (upd (M.1 0 0) 13 ((M.1 0 0 13) - (1 : Int32)))
    if inb (M1.1 0 0 13) 3 = true then
     (f_X9_copyFrom 0 (((M1.1 0 0 13).toNatClampNeg) + 1) M1).bind fun M3 =>
     (f_X10_answer (M3.1 0 0 13) M3).bind fun q4 =>
     some (q4.1, q4.2)
    else none
  else
    (f_X10_none (8 : Int32) M).bind fun q5 =>
    some (q5.1, q5.2)
set_option maxRecDepth 20000 in
set_option maxHeartbeats 2000000 in
theorem c_X10_back (E : wEnv) {M : Mem} {q : (Int32 × Mem)} (h : f_X10_back M = some q) : Mt E yX10_back cX10_back 1 (some .int) 3 [.ref (ad E 0 0)] M (some (.int q.1)) q.2 := by
  unfold f_X10_back at h
  refine mt_intro (own := RX10) (lv0 := [(0, .ref (ad E 0 0))]) (by decide) rfl rfl rfl (fun Y C R => ?_)
  refine g_aload_n C dX10_back_0 rfl rfl ?_
  refine get_X10_90 C dX10_back_1 (by decide) ?_
  refine g_if_gt (tgt := 14) C dX10_back_4 (by decide) h (fun h => ?_) (fun h => ?_)
  · refine g_aload_n C dX10_back_14 rfl rfl ?_
    refine g_dup C dX10_back_15 rfl ?_
    refine get_X10_90 C dX10_back_16 (by decide) ?_
    refine g_iconst (v := (1 : Int32)) C dX10_back_19 (by decide) ?_
    refine g_isub C dX10_back_20 ?_
    refine put_X10_90 C dX10_back_21 (by decide) ?_
    refine g_aload_n C dX10_back_24 rfl rfl ?_
    refine get_X10_19 C dX10_back_25 (by decide) ?_
    refine g_aload_n C dX10_back_28 rfl rfl ?_
    refine get_X10_23 C dX10_back_29 (by decide) ?_
    refine g_aload_n C dX10_back_32 rfl rfl ?_
    refine get_X10_90 C dX10_back_33 (by decide) ?_
    obtain ⟨hb2, h⟩ := of_ite h
    refine ld_1 (j := _) C dX10_back_36 (by decide) hb2 rfl ?_
    obtain ⟨M3, hr3, h⟩ := Option.bind_eq_some_iff.mp h
    refine call_X10_434 C dX10_back_37 (by decide) (c_X9_copyFrom E (by decide) (inb_add hb2 (by decide)) hr3) (by decide) rfl ?_
    refine g_aload_n C dX10_back_40 rfl rfl ?_
    refine g_aload_n C dX10_back_41 rfl rfl ?_
    refine get_X10_90 C dX10_back_42 (by decide) ?_
    obtain ⟨q4, hr4, h⟩ := Option.bind_eq_some_iff.mp h
    refine call_X10_197 C dX10_back_45 (by decide) (c_X10_answer E hr4) (by decide) rfl ?_
    exact g_iret C R dX10_back_48 (fst_of h) (snd_of h)
  · refine g_aload_n C dX10_back_7 rfl rfl ?_
    refine g_bipush (v := (8 : Int32)) C dX10_back_8 (by decide) ?_
    obtain ⟨q5, hr5, h⟩ := Option.bind_eq_some_iff.mp h
    refine call_X10_133 C dX10_back_10 (by decide) (c_X10_none E hr5) (by decide) rfl ?_
    exact g_iret C R dX10_back_13 (fst_of h) (snd_of h)
noncomputable def f_X11_status (M : Mem) : Option (Int32 × Mem) :=
  let M1 := sR M 50 0 (upd (M.1 50 0) 1 (0 : Int32))
  some ((M1.1 50 0 0), M1)
set_option maxRecDepth 20000 in
set_option maxHeartbeats 2000000 in
theorem c_X11_status (E : wEnv) {M : Mem} {q : (Int32 × Mem)} (h : f_X11_status M = some q) : Mt E yX11_status cX11_status 1 (some .int) 0 [.ref (ad E 50 0)] M (some (.int q.1)) q.2 := by
  unfold f_X11_status at h
  refine mt_intro (own := RX11) (lv0 := [(0, .ref (ad E 50 0))]) (by decide) rfl rfl rfl (fun Y C R => ?_)
  refine g_aload_n C dX11_status_0 rfl rfl ?_
  refine g_iconst (v := (0 : Int32)) C dX11_status_1 (by decide) ?_
  refine put_X11_71 C dX11_status_2 (by decide) ?_
  refine g_aload_n C dX11_status_5 rfl rfl ?_
  refine get_X11_74 C dX11_status_6 (by decide) ?_
  exact g_iret C R dX11_status_9 (fst_of h) (snd_of h)
noncomputable def f_X11_top (M : Mem) : Option (Int64 × Mem) :=
  let M1 := sR M 50 0 (upd (M.1 50 0) 1 (0 : Int32))
  some ((M1.2 50 0 2), M1)
set_option maxRecDepth 20000 in
set_option maxHeartbeats 2000000 in
theorem c_X11_top (E : wEnv) {M : Mem} {q : (Int64 × Mem)} (h : f_X11_top M = some q) : Mt E yX11_top cX11_top 1 (some .long) 0 [.ref (ad E 50 0)] M (some (.long q.1)) q.2 := by
  unfold f_X11_top at h
  refine mt_intro (own := RX11) (lv0 := [(0, .ref (ad E 50 0))]) (by decide) rfl rfl rfl (fun Y C R => ?_)
  refine g_aload_n C dX11_top_0 rfl rfl ?_
  refine g_iconst (v := (0 : Int32)) C dX11_top_1 (by decide) ?_
  refine put_X11_71 C dX11_top_2 (by decide) ?_
  refine g_aload_n C dX11_top_5 rfl rfl ?_
  refine get_X11_77 C dX11_top_6 (by decide) ?_
  exact g_lret C R dX11_top_9 (fst_of h) (snd_of h)
noncomputable def f_X11_bottom (M : Mem) : Option (Int64 × Mem) :=
  let M1 := sR M 50 0 (upd (M.1 50 0) 1 (0 : Int32))
  some ((M1.2 50 0 3), M1)
set_option maxRecDepth 20000 in
set_option maxHeartbeats 2000000 in
theorem c_X11_bottom (E : wEnv) {M : Mem} {q : (Int64 × Mem)} (h : f_X11_bottom M = some q) : Mt E yX11_bottom cX11_bottom 1 (some .long) 0 [.ref (ad E 50 0)] M (some (.long q.1)) q.2 := by
  unfold f_X11_bottom at h
  refine mt_intro (own := RX11) (lv0 := [(0, .ref (ad E 50 0))]) (by decide) rfl rfl rfl (fun Y C R => ?_)
  refine g_aload_n C dX11_bottom_0 rfl rfl ?_
  refine g_iconst (v := (0 : Int32)) C dX11_bottom_1 (by decide) ?_
  refine put_X11_71 C dX11_bottom_2 (by decide) ?_
  refine g_aload_n C dX11_bottom_5 rfl rfl ?_
  refine get_X11_7 C dX11_bottom_6 (by decide) ?_
  exact g_lret C R dX11_bottom_9 (fst_of h) (snd_of h)
noncomputable def f_X11_refuse (x1 : Int32) (M : Mem) : Option (Int32 × Mem) :=
  let M1 := sR M 50 0 (upd (M.1 50 0) 0 x1)
  some ((-1 : Int32), M1)
set_option maxRecDepth 20000 in
set_option maxHeartbeats 2000000 in
theorem c_X11_refuse (E : wEnv) {x1 : Int32} {M : Mem} {q : (Int32 × Mem)} (h : f_X11_refuse x1 M = some q) : Mt E yX11_refuse cX11_refuse 2 (some .int) 0 [.ref (ad E 50 0), .int x1] M (some (.int q.1)) q.2 := by
  unfold f_X11_refuse at h
  refine mt_intro (own := RX11) (lv0 := [(0, .ref (ad E 50 0)), (1, .int x1)]) (by decide) rfl rfl rfl (fun Y C R => ?_)
  refine g_aload_n C dX11_refuse_0 rfl rfl ?_
  refine g_iload_n C dX11_refuse_1 rfl rfl ?_
  refine put_X11_74 C dX11_refuse_2 (by decide) ?_
  refine g_iconst (v := (-1 : Int32)) C dX11_refuse_5 (by decide) ?_
  exact g_iret C R dX11_refuse_6 (fst_of h) (snd_of h)
noncomputable def f_X11_no (x1 : Int32) (M : Mem) : Option (Int32 × Mem) :=
  let M1 := sR M 50 0 (upd (M.1 50 0) 0 x1)
  some ((0 : Int32), M1)
set_option maxRecDepth 20000 in
set_option maxHeartbeats 2000000 in
theorem c_X11_no (E : wEnv) {x1 : Int32} {M : Mem} {q : (Int32 × Mem)} (h : f_X11_no x1 M = some q) : Mt E yX11_no cX11_no 2 (some .boolean) 0 [.ref (ad E 50 0), .int x1] M (some (.int q.1)) q.2 := by
  unfold f_X11_no at h
  refine mt_intro (own := RX11) (lv0 := [(0, .ref (ad E 50 0)), (1, .int x1)]) (by decide) rfl rfl rfl (fun Y C R => ?_)
  refine g_aload_n C dX11_no_0 rfl rfl ?_
  refine g_iload_n C dX11_no_1 rfl rfl ?_
  refine put_X11_74 C dX11_no_2 (by decide) ?_
  refine g_iconst (v := (0 : Int32)) C dX11_no_5 (by decide) ?_
  exact g_zret C R dX11_no_6 (fst_of h) (Or.inl rfl) (snd_of h)
noncomputable def f_X11_isIn (l0 : Int64) (l2 : Int64) (l4 : Int64) : Option Int32 :=
  if (lg_cmp l0 l2) < 0 then
    some (0 : Int32)
  else
    if 0 < (lg_cmp l0 l4) then
      some (0 : Int32)
    else
      some (1 : Int32)
set_option maxRecDepth 20000 in
set_option maxHeartbeats 2000000 in
theorem c_X11_isIn (E : wEnv) {l0 : Int64} {l2 : Int64} {l4 : Int64} {M : Mem} {q : Int32} (h : f_X11_isIn l0 l2 l4 = some q) : Mt E yX11_isIn cX11_isIn 6 (some .boolean) 0 [.long l0, .long l2, .long l4] M (some (.int q)) M := by
  unfold f_X11_isIn at h
  refine mt_intro (own := RX11) (lv0 := [(0, .long l0), (2, .long l2), (4, .long l4)]) (by decide) rfl rfl rfl (fun Y C R => ?_)
  refine g_lload_n C dX11_isIn_0 rfl rfl ?_
  refine g_lload_n C dX11_isIn_1 rfl rfl ?_
  refine g_lcmp C dX11_isIn_2 ?_
  refine g_if_lt (tgt := 17) C dX11_isIn_3 (by decide) h (fun h => ?_) (fun h => ?_)
  · refine g_iconst (v := (0 : Int32)) C dX11_isIn_17 (by decide) ?_
    exact g_zret C R dX11_isIn_18 (Option.some.inj h) (Or.inl rfl) rfl
  · refine g_lload_n C dX11_isIn_6 rfl rfl ?_
    refine g_lload C dX11_isIn_7 rfl ?_
    refine g_lcmp C dX11_isIn_9 ?_
    refine g_if_gt (tgt := 17) C dX11_isIn_10 (by decide) h (fun h => ?_) (fun h => ?_)
    · refine g_iconst (v := (0 : Int32)) C dX11_isIn_17 (by decide) ?_
      exact g_zret C R dX11_isIn_18 (Option.some.inj h) (Or.inl rfl) rfl
    · refine g_iconst (v := (1 : Int32)) C dX11_isIn_13 (by decide) ?_
      refine g_goto (tgt := 18) C dX11_isIn_14 (by decide) ?_
      exact g_zret C R dX11_isIn_18 (Option.some.inj h) (Or.inr rfl) rfl
noncomputable def f_X11_fraction_9 (l1 : Int64) (l3 : Int64) (M : Mem) : Nat → Int64 → Int64 → Option (Int32 × Mem)
  | 0, _, _ => none
  | n + 1, l5, l7 =>
  if (lg_cmp l7 (0 : Int64)) = 0 then
    if l5 = 0 then none else
    let M2 := sL M 50 0 (vp_updL (M.2 50 0) 2 (l1 / l5))
    if l5 = 0 then none else
    let M4 := sL M2 50 0 (vp_updL (M2.2 50 0) 3 (l3 / l5))
    some ((1 : Int32), M4)
  else
    if l7 = 0 then none else
    f_X11_fraction_9 l1 l3 M n l7 (jreml l5 l7)
noncomputable def f_X11_fraction (l1 : Int64) (l3 : Int64) (M : Mem) : Option (Int32 × Mem) :=
  f_X11_fraction_9 l1 l3 M FU (jabsl l1) l3
set_option maxRecDepth 20000 in
set_option maxHeartbeats 2000000 in
theorem b_X11_fraction_9 {E : wEnv} {Y : YT} (C : Cx E Y cX11_fraction 11 RX11 1) {q : (Int32 × Mem)} {M : Mem} (R : Rx E Y (some .boolean) (some (.int q.1)) q.2) {l1 : Int64} {l3 : Int64} (n : Nat) : ∀ {l5 : Int64} {l7 : Int64} (_ : f_X11_fraction_9 l1 l3 M n l5 l7 = some q), G E Y 11 M 9 [(0, .ref (ad E 50 0)), (1, .long l1), (3, .long l3), (5, .long l5), (7, .long l7)] [] := by
  induction n with
  | zero =>
    intro l5 l7 h
    cases (show none = some q from h)
  | succ n ih =>
    intro l5 l7 h
    rw [f_X11_fraction_9] at h
    refine g_lload C dX11_fraction_9 rfl ?_
    refine g_lconst (v := (0 : Int64)) C dX11_fraction_11 (by decide) ?_
    refine g_lcmp C dX11_fraction_12 ?_
    refine g_if_eq (tgt := 34) C dX11_fraction_13 (by decide) h (fun h => ?_) (fun h => ?_)
    · refine g_aload_n C dX11_fraction_34 rfl rfl ?_
      refine g_lload_n C dX11_fraction_35 rfl rfl ?_
      refine g_lload C dX11_fraction_36 rfl ?_
      obtain ⟨hz1, h⟩ := of_iten h
      refine g_ldiv C dX11_fraction_38 hz1 ?_
      refine put_X11_77 C dX11_fraction_39 (by decide) ?_
      refine g_aload_n C dX11_fraction_42 rfl rfl ?_
      refine g_lload_n C dX11_fraction_43 rfl rfl ?_
      refine g_lload C dX11_fraction_44 rfl ?_
      obtain ⟨hz3, h⟩ := of_iten h
      refine g_ldiv C dX11_fraction_46 hz3 ?_
      refine put_X11_7 C dX11_fraction_47 (by decide) ?_
      refine g_iconst (v := (1 : Int32)) C dX11_fraction_50 (by decide) ?_
      exact g_zret C R dX11_fraction_51 (fst_of h) (Or.inr rfl) (snd_of h)
    · refine g_lload C dX11_fraction_16 rfl ?_
      refine g_lload C dX11_fraction_18 rfl ?_
      obtain ⟨hz5, h⟩ := of_iten h
      refine g_lrem C dX11_fraction_20 hz5 ?_
      refine g_lstore C dX11_fraction_21 rfl ?_
      refine g_lload C dX11_fraction_23 rfl ?_
      refine g_lstore C dX11_fraction_25 rfl ?_
      refine g_lload C dX11_fraction_27 rfl ?_
      refine g_lstore C dX11_fraction_29 rfl ?_
      refine g_goto (tgt := 9) C dX11_fraction_31 (by decide) ?_
      exact g_sub (ih h) ⟨rfl, rfl, rfl, rfl, rfl, trivial⟩
set_option maxRecDepth 20000 in
set_option maxHeartbeats 2000000 in
theorem c_X11_fraction (E : wEnv) {l1 : Int64} {l3 : Int64} {M : Mem} {q : (Int32 × Mem)} (h : f_X11_fraction l1 l3 M = some q) : Mt E yX11_fraction cX11_fraction 11 (some .boolean) 1 [.ref (ad E 50 0), .long l1, .long l3] M (some (.int q.1)) q.2 := by
  unfold f_X11_fraction at h
  refine mt_intro (own := RX11) (lv0 := [(0, .ref (ad E 50 0)), (1, .long l1), (3, .long l3)]) (by decide) rfl rfl rfl (fun Y C R => ?_)
  refine g_lload_n C dX11_fraction_0 rfl rfl ?_
  refine call_X11_80 C dX11_fraction_1 (by decide) rfl ?_
  refine g_lstore C dX11_fraction_4 rfl ?_
  refine g_lload_n C dX11_fraction_6 rfl rfl ?_
  refine g_lstore C dX11_fraction_7 rfl ?_
  exact g_sub (b_X11_fraction_9 C R _ h) ⟨rfl, rfl, rfl, rfl, rfl, trivial⟩
noncomputable def f_X11_cut (x0 : Int32) (l1 : Int64) : Option Int64 :=
  if x0 = 0 then
    some l1.toInt32.toInt8.toInt32.toInt64
  else
    if x0 = (1 : Int32) then
      some l1.toInt32.toInt16.toInt32.toInt64
    else
      if x0 = (2 : Int32) then
        some l1.toInt32.toInt64
      else
        some l1
set_option maxRecDepth 20000 in
set_option maxHeartbeats 2000000 in
theorem c_X11_cut (E : wEnv) {x0 : Int32} {l1 : Int64} {M : Mem} {q : Int64} (h : f_X11_cut x0 l1 = some q) : Mt E yX11_cut cX11_cut 3 (some .long) 0 [.int x0, .long l1] M (some (.long q)) M := by
  unfold f_X11_cut at h
  refine mt_intro (own := RX11) (lv0 := [(0, .int x0), (1, .long l1)]) (by decide) rfl rfl rfl (fun Y C R => ?_)
  refine g_iload_n C dX11_cut_0 rfl rfl ?_
  refine g_if_ne (tgt := 11) C dX11_cut_1 (by decide) h (fun h => ?_) (fun h => ?_)
  · refine g_iload_n C dX11_cut_11 rfl rfl ?_
    refine g_iconst (v := (1 : Int32)) C dX11_cut_12 (by decide) ?_
    refine g_icmp_ne (tgt := 23) C dX11_cut_13 (by decide) h (fun h => ?_) (fun h => ?_)
    · refine g_iload_n C dX11_cut_23 rfl rfl ?_
      refine g_iconst (v := (2 : Int32)) C dX11_cut_24 (by decide) ?_
      refine g_icmp_ne (tgt := 34) C dX11_cut_25 (by decide) h (fun h => ?_) (fun h => ?_)
      · refine g_lload_n C dX11_cut_34 rfl rfl ?_
        exact g_lret C R dX11_cut_35 (Option.some.inj h) rfl
      · refine g_lload_n C dX11_cut_28 rfl rfl ?_
        refine g_l2i C dX11_cut_29 ?_
        refine g_i2l C dX11_cut_30 ?_
        refine g_goto (tgt := 35) C dX11_cut_31 (by decide) ?_
        exact g_lret C R dX11_cut_35 (Option.some.inj h) rfl
    · refine g_lload_n C dX11_cut_16 rfl rfl ?_
      refine g_l2i C dX11_cut_17 ?_
      refine g_i2s C dX11_cut_18 ?_
      refine g_i2l C dX11_cut_19 ?_
      refine g_goto (tgt := 35) C dX11_cut_20 (by decide) ?_
      exact g_lret C R dX11_cut_35 (Option.some.inj h) rfl
  · refine g_lload_n C dX11_cut_4 rfl rfl ?_
    refine g_l2i C dX11_cut_5 ?_
    refine g_i2b C dX11_cut_6 ?_
    refine g_i2l C dX11_cut_7 ?_
    refine g_goto (tgt := 35) C dX11_cut_8 (by decide) ?_
    exact g_lret C R dX11_cut_35 (Option.some.inj h) rfl
noncomputable def f_X11_tray_74 (x1 : Int32) (x3 : Int32) : Nat → Int32 → Mem → Option (Int32 × Mem)
  | 0, _, _ => none
  | n + 1, x4, M =>
  if x4 < x3 then
    if inb (((60 : Int32) * x1) + x4) 240 = true then
     let M14 := sL M 53 0 (vp_updL (M.2 53 0) ((((60 : Int32) * x1) + x4).toNatClampNeg) (0 : Int64))
     f_X11_tray_74 x1 x3 n (x4 + (1 : Int32)) M14
    else none
  else
    some ((1 : Int32), M)
noncomputable def f_X11_tray (x1 : Int32) (x2 : Int32) (x3 : Int32) (M : Mem) : Option (Int32 × Mem) :=
  let M1 := sR M 50 0 (upd (M.1 50 0) 1 (0 : Int32))
  let M2 := sR M1 50 0 (upd (M1.1 50 0) 0 (0 : Int32))
  if x1 < 0 then
    (f_X11_no (1 : Int32) M2).bind fun q3 =>
    if isB q3.1 = true then some (q3.1, q3.2) else none
  else
    if x1 < (4 : Int32) then
      if x2 < 0 then
        (f_X11_no (1 : Int32) M2).bind fun q7 =>
        if isB q7.1 = true then some (q7.1, q7.2) else none
      else
        if (3 : Int32) < x2 then
          (f_X11_no (1 : Int32) M2).bind fun q19 =>
          if isB q19.1 = true then some (q19.1, q19.2) else none
        else
          if (60 : Int32) < x3 then
            (f_X11_no (5 : Int32) M2).bind fun q17 =>
            if isB q17.1 = true then some (q17.1, q17.2) else none
          else
            if x3 < 0 then
              (f_X11_no (6 : Int32) M2).bind fun q15 =>
              if isB q15.1 = true then some (q15.1, q15.2) else none
            else
              if inb x1 4 = true then
               let M10 := sR M2 51 0 (upd (M2.1 51 0) x1.toNatClampNeg x2)
               if inb x1 4 = true then
                let M12 := sR M10 52 0 (upd (M10.1 52 0) x1.toNatClampNeg x3)
                f_X11_tray_74 x1 x3 FU (0 : Int32) M12
               else none
              else none
    else
      (f_X11_no (1 : Int32) M2).bind fun q5 =>
      if isB q5.1 = true then some (q5.1, q5.2) else none
set_option maxRecDepth 20000 in
set_option maxHeartbeats 2000000 in
theorem b_X11_tray_74 {E : wEnv} {Y : YT} (C : Cx E Y cX11_tray 5 RX11 1) {q : (Int32 × Mem)} (R : Rx E Y (some .boolean) (some (.int q.1)) q.2) {x1 : Int32} {x3 : Int32} (n : Nat) : ∀ {x4 : Int32} {M : Mem} (_ : f_X11_tray_74 x1 x3 n x4 M = some q), G E Y 5 M 74 [(0, .ref (ad E 50 0)), (1, .int x1), (3, .int x3), (4, .int x4)] [] := by
  induction n with
  | zero =>
    intro x4 M h
    cases (show none = some q from h)
  | succ n ih =>
    intro x4 M h
    rw [f_X11_tray_74] at h
    refine g_iload C dX11_tray_74 rfl ?_
    refine g_iload_n C dX11_tray_76 rfl rfl ?_
    refine g_icmp_ge (tgt := 99) C dX11_tray_77 (by decide) h (fun h => ?_) (fun h => ?_)
    · refine g_iconst (v := (1 : Int32)) C dX11_tray_99 (by decide) ?_
      exact g_zret C R dX11_tray_100 (fst_of h) (Or.inr rfl) (snd_of h)
    · refine g_aload_n C dX11_tray_80 rfl rfl ?_
      refine get_X11_20 C dX11_tray_81 (by decide) ?_
      refine g_bipush (v := (60 : Int32)) C dX11_tray_84 (by decide) ?_
      refine g_iload_n C dX11_tray_86 rfl rfl ?_
      refine g_imul C dX11_tray_87 ?_
      refine g_iload C dX11_tray_88 rfl ?_
      refine g_iadd C dX11_tray_90 ?_
      refine g_lconst (v := (0 : Int64)) C dX11_tray_91 (by decide) ?_
      obtain ⟨hb13, h⟩ := of_ite h
      refine st_53 (j := _) C dX11_tray_92 (by decide) hb13 rfl ?_
      refine g_iinc (w := (1 : Int32)) C dX11_tray_93 rfl (by decide) rfl ?_
      refine g_goto (tgt := 74) C dX11_tray_96 (by decide) ?_
      exact g_sub (ih h) ⟨rfl, rfl, rfl, rfl, trivial⟩
set_option maxRecDepth 20000 in
set_option maxHeartbeats 2000000 in
theorem c_X11_tray (E : wEnv) {x1 : Int32} {x2 : Int32} {x3 : Int32} {M : Mem} {q : (Int32 × Mem)} (h : f_X11_tray x1 x2 x3 M = some q) : Mt E yX11_tray cX11_tray 5 (some .boolean) 1 [.ref (ad E 50 0), .int x1, .int x2, .int x3] M (some (.int q.1)) q.2 := by
  unfold f_X11_tray at h
  refine mt_intro (own := RX11) (lv0 := [(0, .ref (ad E 50 0)), (1, .int x1), (2, .int x2), (3, .int x3)]) (by decide) rfl rfl rfl (fun Y C R => ?_)
  refine g_aload_n C dX11_tray_0 rfl rfl ?_
  refine g_iconst (v := (0 : Int32)) C dX11_tray_1 (by decide) ?_
  refine put_X11_71 C dX11_tray_2 (by decide) ?_
  refine g_aload_n C dX11_tray_5 rfl rfl ?_
  refine g_iconst (v := (0 : Int32)) C dX11_tray_6 (by decide) ?_
  refine put_X11_74 C dX11_tray_7 (by decide) ?_
  refine g_iload_n C dX11_tray_10 rfl rfl ?_
  refine g_if_lt (tgt := 28) C dX11_tray_11 (by decide) h (fun h => ?_) (fun h => ?_)
  · refine g_aload_n C dX11_tray_28 rfl rfl ?_
    refine g_iconst (v := (1 : Int32)) C dX11_tray_29 (by decide) ?_
    obtain ⟨q3, hr3, h⟩ := Option.bind_eq_some_iff.mp h
    refine call_X11_86 C dX11_tray_30 (by decide) (c_X11_no E hr3) (by decide) rfl ?_
    obtain ⟨hz4, h⟩ := of_ite h
    exact g_zret C R dX11_tray_33 (fst_of h) (isB_of hz4) (snd_of h)
  · refine g_iload_n C dX11_tray_14 rfl rfl ?_
    refine g_iconst (v := (4 : Int32)) C dX11_tray_15 (by decide) ?_
    refine g_icmp_ge (tgt := 28) C dX11_tray_16 (by decide) h (fun h => ?_) (fun h => ?_)
    · refine g_aload_n C dX11_tray_28 rfl rfl ?_
      refine g_iconst (v := (1 : Int32)) C dX11_tray_29 (by decide) ?_
      obtain ⟨q5, hr5, h⟩ := Option.bind_eq_some_iff.mp h
      refine call_X11_86 C dX11_tray_30 (by decide) (c_X11_no E hr5) (by decide) rfl ?_
      obtain ⟨hz6, h⟩ := of_ite h
      exact g_zret C R dX11_tray_33 (fst_of h) (isB_of hz6) (snd_of h)
    · refine g_iload_n C dX11_tray_19 rfl rfl ?_
      refine g_if_lt (tgt := 28) C dX11_tray_20 (by decide) h (fun h => ?_) (fun h => ?_)
      · refine g_aload_n C dX11_tray_28 rfl rfl ?_
        refine g_iconst (v := (1 : Int32)) C dX11_tray_29 (by decide) ?_
        obtain ⟨q7, hr7, h⟩ := Option.bind_eq_some_iff.mp h
        refine call_X11_86 C dX11_tray_30 (by decide) (c_X11_no E hr7) (by decide) rfl ?_
        obtain ⟨hz8, h⟩ := of_ite h
        exact g_zret C R dX11_tray_33 (fst_of h) (isB_of hz8) (snd_of h)
      · refine g_iload_n C dX11_tray_23 rfl rfl ?_
        refine g_iconst (v := (3 : Int32)) C dX11_tray_24 (by decide) ?_
        refine g_icmp_le (tgt := 34) C dX11_tray_25 (by decide) h (fun h => ?_) (fun h => ?_)
        · refine g_iload_n C dX11_tray_34 rfl rfl ?_
          refine g_bipush (v := (60 : Int32)) C dX11_tray_35 (by decide) ?_
          refine g_icmp_le (tgt := 46) C dX11_tray_37 (by decide) h (fun h => ?_) (fun h => ?_)
          · refine g_iload_n C dX11_tray_46 rfl rfl ?_
            refine g_if_ge (tgt := 57) C dX11_tray_47 (by decide) h (fun h => ?_) (fun h => ?_)
            · refine g_aload_n C dX11_tray_57 rfl rfl ?_
              refine get_X11_13 C dX11_tray_58 (by decide) ?_
              refine g_iload_n C dX11_tray_61 rfl rfl ?_
              refine g_iload_n C dX11_tray_62 rfl rfl ?_
              obtain ⟨hb9, h⟩ := of_ite h
              refine st_51 (j := _) C dX11_tray_63 (by decide) hb9 rfl ?_
              refine g_aload_n C dX11_tray_64 rfl rfl ?_
              refine get_X11_17 C dX11_tray_65 (by decide) ?_
              refine g_iload_n C dX11_tray_68 rfl rfl ?_
              refine g_iload_n C dX11_tray_69 rfl rfl ?_
              obtain ⟨hb11, h⟩ := of_ite h
              refine st_52 (j := _) C dX11_tray_70 (by decide) hb11 rfl ?_
              refine g_iconst (v := (0 : Int32)) C dX11_tray_71 (by decide) ?_
              refine g_istore C dX11_tray_72 rfl ?_
              exact g_sub (b_X11_tray_74 C R _ h) ⟨rfl, rfl, rfl, rfl, trivial⟩
            · refine g_aload_n C dX11_tray_50 rfl rfl ?_
              refine g_bipush (v := (6 : Int32)) C dX11_tray_51 (by decide) ?_
              obtain ⟨q15, hr15, h⟩ := Option.bind_eq_some_iff.mp h
              refine call_X11_86 C dX11_tray_53 (by decide) (c_X11_no E hr15) (by decide) rfl ?_
              obtain ⟨hz16, h⟩ := of_ite h
              exact g_zret C R dX11_tray_56 (fst_of h) (isB_of hz16) (snd_of h)
          · refine g_aload_n C dX11_tray_40 rfl rfl ?_
            refine g_iconst (v := (5 : Int32)) C dX11_tray_41 (by decide) ?_
            obtain ⟨q17, hr17, h⟩ := Option.bind_eq_some_iff.mp h
            refine call_X11_86 C dX11_tray_42 (by decide) (c_X11_no E hr17) (by decide) rfl ?_
            obtain ⟨hz18, h⟩ := of_ite h
            exact g_zret C R dX11_tray_45 (fst_of h) (isB_of hz18) (snd_of h)
        · refine g_aload_n C dX11_tray_28 rfl rfl ?_
          refine g_iconst (v := (1 : Int32)) C dX11_tray_29 (by decide) ?_
          obtain ⟨q19, hr19, h⟩ := Option.bind_eq_some_iff.mp h
          refine call_X11_86 C dX11_tray_30 (by decide) (c_X11_no E hr19) (by decide) rfl ?_
          obtain ⟨hz20, h⟩ := of_ite h
          exact g_zret C R dX11_tray_33 (fst_of h) (isB_of hz20) (snd_of h)
noncomputable def f_X11_trayed (x1 : Int32) (M : Mem) : Option Int32 :=
  if x1 < 0 then
    some (1 : Int32)
  else
    if x1 < (4 : Int32) then
      if inb x1 4 = true then
       if (M.1 52 0 x1.toNatClampNeg) < 0 then
         some (3 : Int32)
       else
         some (0 : Int32)
      else none
    else
      some (1 : Int32)
set_option maxRecDepth 20000 in
set_option maxHeartbeats 2000000 in
theorem c_X11_trayed (E : wEnv) {x1 : Int32} {M : Mem} {q : Int32} (h : f_X11_trayed x1 M = some q) : Mt E yX11_trayed cX11_trayed 2 (some .int) 0 [.ref (ad E 50 0), .int x1] M (some (.int q)) M := by
  unfold f_X11_trayed at h
  refine mt_intro (own := RX11) (lv0 := [(0, .ref (ad E 50 0)), (1, .int x1)]) (by decide) rfl rfl rfl (fun Y C R => ?_)
  refine g_iload_n C dX11_trayed_0 rfl rfl ?_
  refine g_if_lt (tgt := 9) C dX11_trayed_1 (by decide) h (fun h => ?_) (fun h => ?_)
  · refine g_iconst (v := (1 : Int32)) C dX11_trayed_9 (by decide) ?_
    refine g_goto (tgt := 27) C dX11_trayed_10 (by decide) ?_
    exact g_iret C R dX11_trayed_27 (Option.some.inj h) rfl
  · refine g_iload_n C dX11_trayed_4 rfl rfl ?_
    refine g_iconst (v := (4 : Int32)) C dX11_trayed_5 (by decide) ?_
    refine g_icmp_lt (tgt := 13) C dX11_trayed_6 (by decide) h (fun h => ?_) (fun h => ?_)
    · refine g_aload_n C dX11_trayed_13 rfl rfl ?_
      refine get_X11_17 C dX11_trayed_14 (by decide) ?_
      refine g_iload_n C dX11_trayed_17 rfl rfl ?_
      obtain ⟨hb1, h⟩ := of_ite h
      refine ld_52 (j := _) C dX11_trayed_18 (by decide) hb1 rfl ?_
      refine g_if_ge (tgt := 26) C dX11_trayed_19 (by decide) h (fun h => ?_) (fun h => ?_)
      · refine g_iconst (v := (0 : Int32)) C dX11_trayed_26 (by decide) ?_
        exact g_iret C R dX11_trayed_27 (Option.some.inj h) rfl
      · refine g_iconst (v := (3 : Int32)) C dX11_trayed_22 (by decide) ?_
        refine g_goto (tgt := 27) C dX11_trayed_23 (by decide) ?_
        exact g_iret C R dX11_trayed_27 (Option.some.inj h) rfl
    · refine g_iconst (v := (1 : Int32)) C dX11_trayed_9 (by decide) ?_
      refine g_goto (tgt := 27) C dX11_trayed_10 (by decide) ?_
      exact g_iret C R dX11_trayed_27 (Option.some.inj h) rfl
noncomputable def f_X11_placed (x1 : Int32) (x2 : Int32) (M : Mem) : Option Int32 :=
  (f_X11_trayed x1 M).bind fun r1 =>
  if 0 < r1 then
    some r1
  else
    if x2 < 0 then
      some (4 : Int32)
    else
      if inb x1 4 = true then
       if x2 < (M.1 52 0 x1.toNatClampNeg) then
         some (0 : Int32)
       else
         some (4 : Int32)
      else none
set_option maxRecDepth 20000 in
set_option maxHeartbeats 2000000 in
theorem c_X11_placed (E : wEnv) {x1 : Int32} {x2 : Int32} {M : Mem} {q : Int32} (h : f_X11_placed x1 x2 M = some q) : Mt E yX11_placed cX11_placed 4 (some .int) 1 [.ref (ad E 50 0), .int x1, .int x2] M (some (.int q)) M := by
  unfold f_X11_placed at h
  refine mt_intro (own := RX11) (lv0 := [(0, .ref (ad E 50 0)), (1, .int x1), (2, .int x2)]) (by decide) rfl rfl rfl (fun Y C R => ?_)
  refine g_aload_n C dX11_placed_0 rfl rfl ?_
  refine g_iload_n C dX11_placed_1 rfl rfl ?_
  obtain ⟨r1, hr1, h⟩ := Option.bind_eq_some_iff.mp h
  refine call_X11_90 C dX11_placed_2 (by decide) (c_X11_trayed E hr1) (by decide) rfl ?_
  refine g_istore_n C dX11_placed_5 rfl rfl ?_
  refine g_iload_n C dX11_placed_6 rfl rfl ?_
  refine g_if_le (tgt := 14) C dX11_placed_7 (by decide) h (fun h => ?_) (fun h => ?_)
  · refine g_iload_n C dX11_placed_14 rfl rfl ?_
    refine g_if_lt (tgt := 28) C dX11_placed_15 (by decide) h (fun h => ?_) (fun h => ?_)
    · refine g_iconst (v := (4 : Int32)) C dX11_placed_28 (by decide) ?_
      refine g_goto (tgt := 33) C dX11_placed_29 (by decide) ?_
      exact g_iret C R dX11_placed_33 (Option.some.inj h) rfl
    · refine g_iload_n C dX11_placed_18 rfl rfl ?_
      refine g_aload_n C dX11_placed_19 rfl rfl ?_
      refine get_X11_17 C dX11_placed_20 (by decide) ?_
      refine g_iload_n C dX11_placed_23 rfl rfl ?_
      obtain ⟨hb2, h⟩ := of_ite h
      refine ld_52 (j := _) C dX11_placed_24 (by decide) hb2 rfl ?_
      refine g_icmp_lt (tgt := 32) C dX11_placed_25 (by decide) h (fun h => ?_) (fun h => ?_)
      · refine g_iconst (v := (0 : Int32)) C dX11_placed_32 (by decide) ?_
        exact g_iret C R dX11_placed_33 (Option.some.inj h) rfl
      · refine g_iconst (v := (4 : Int32)) C dX11_placed_28 (by decide) ?_
        refine g_goto (tgt := 33) C dX11_placed_29 (by decide) ?_
        exact g_iret C R dX11_placed_33 (Option.some.inj h) rfl
  · refine g_iload_n C dX11_placed_10 rfl rfl ?_
    refine g_goto (tgt := 33) C dX11_placed_11 (by decide) ?_
    exact g_iret C R dX11_placed_33 (Option.some.inj h) rfl
noncomputable def f_X11_write (x1 : Int32) (x2 : Int32) (l3 : Int64) (M : Mem) : Option (Int32 × Mem) :=
  let M1 := sR M 50 0 (upd (M.1 50 0) 1 (0 : Int32))
  (f_X11_placed x1 x2 M1).bind fun r2 =>
  let M3 := sR M1 50 0 (upd (M1.1 50 0) 0 r2)
  if 0 < (M3.1 50 0 0) then
    some ((0 : Int32), M3)
  else
    if inb x1 4 = true then
     (f_X11_cut (M3.1 51 0 x1.toNatClampNeg) l3).bind fun r5 =>
     if inb (((60 : Int32) * x1) + x2) 240 = true then
      let M7 := sL M3 53 0 (vp_updL (M3.2 53 0) ((((60 : Int32) * x1) + x2).toNatClampNeg) r5)
      some ((1 : Int32), M7)
     else none
    else none
set_option maxRecDepth 20000 in
set_option maxHeartbeats 2000000 in
theorem c_X11_write (E : wEnv) {x1 : Int32} {x2 : Int32} {l3 : Int64} {M : Mem} {q : (Int32 × Mem)} (h : f_X11_write x1 x2 l3 M = some q) : Mt E yX11_write cX11_write 5 (some .boolean) 2 [.ref (ad E 50 0), .int x1, .int x2, .long l3] M (some (.int q.1)) q.2 := by
  unfold f_X11_write at h
  refine mt_intro (own := RX11) (lv0 := [(0, .ref (ad E 50 0)), (1, .int x1), (2, .int x2), (3, .long l3)]) (by decide) rfl rfl rfl (fun Y C R => ?_)
  refine g_aload_n C dX11_write_0 rfl rfl ?_
  refine g_iconst (v := (0 : Int32)) C dX11_write_1 (by decide) ?_
  refine put_X11_71 C dX11_write_2 (by decide) ?_
  refine g_aload_n C dX11_write_5 rfl rfl ?_
  refine g_aload_n C dX11_write_6 rfl rfl ?_
  refine g_iload_n C dX11_write_7 rfl rfl ?_
  refine g_iload_n C dX11_write_8 rfl rfl ?_
  obtain ⟨r2, hr2, h⟩ := Option.bind_eq_some_iff.mp h
  refine call_X11_94 C dX11_write_9 (by decide) (c_X11_placed E hr2) (by decide) rfl ?_
  refine put_X11_74 C dX11_write_12 (by decide) ?_
  refine g_aload_n C dX11_write_15 rfl rfl ?_
  refine get_X11_74 C dX11_write_16 (by decide) ?_
  refine g_if_le (tgt := 24) C dX11_write_19 (by decide) h (fun h => ?_) (fun h => ?_)
  · refine g_aload_n C dX11_write_24 rfl rfl ?_
    refine get_X11_20 C dX11_write_25 (by decide) ?_
    refine g_bipush (v := (60 : Int32)) C dX11_write_28 (by decide) ?_
    refine g_iload_n C dX11_write_30 rfl rfl ?_
    refine g_imul C dX11_write_31 ?_
    refine g_iload_n C dX11_write_32 rfl rfl ?_
    refine g_iadd C dX11_write_33 ?_
    refine g_aload_n C dX11_write_34 rfl rfl ?_
    refine get_X11_13 C dX11_write_35 (by decide) ?_
    refine g_iload_n C dX11_write_38 rfl rfl ?_
    obtain ⟨hb4, h⟩ := of_ite h
    refine ld_51 (j := _) C dX11_write_39 (by decide) hb4 rfl ?_
    refine g_lload_n C dX11_write_40 rfl rfl ?_
    obtain ⟨r5, hr5, h⟩ := Option.bind_eq_some_iff.mp h
    refine call_X11_98 C dX11_write_41 (c_X11_cut E hr5) (by decide) rfl ?_
    obtain ⟨hb6, h⟩ := of_ite h
    refine st_53 (j := _) C dX11_write_44 (by decide) hb6 rfl ?_
    refine g_iconst (v := (1 : Int32)) C dX11_write_45 (by decide) ?_
    exact g_zret C R dX11_write_46 (fst_of h) (Or.inr rfl) (snd_of h)
  · refine g_iconst (v := (0 : Int32)) C dX11_write_22 (by decide) ?_
    exact g_zret C R dX11_write_23 (fst_of h) (Or.inl rfl) (snd_of h)
noncomputable def f_X11_read (x1 : Int32) (x2 : Int32) (M : Mem) : Option (Int64 × Mem) :=
  let M1 := sR M 50 0 (upd (M.1 50 0) 1 (0 : Int32))
  (f_X11_placed x1 x2 M1).bind fun r2 =>
  let M3 := sR M1 50 0 (upd (M1.1 50 0) 0 r2)
  if 0 < (M3.1 50 0 0) then
    some ((-1 : Int64), M3)
  else
    if inb (((60 : Int32) * x1) + x2) 240 = true then
     some ((M3.2 53 0 ((((60 : Int32) * x1) + x2).toNatClampNeg)), M3)
    else none
set_option maxRecDepth 20000 in
set_option maxHeartbeats 2000000 in
theorem c_X11_read (E : wEnv) {x1 : Int32} {x2 : Int32} {M : Mem} {q : (Int64 × Mem)} (h : f_X11_read x1 x2 M = some q) : Mt E yX11_read cX11_read 3 (some .long) 2 [.ref (ad E 50 0), .int x1, .int x2] M (some (.long q.1)) q.2 := by
  unfold f_X11_read at h
  refine mt_intro (own := RX11) (lv0 := [(0, .ref (ad E 50 0)), (1, .int x1), (2, .int x2)]) (by decide) rfl rfl rfl (fun Y C R => ?_)
  refine g_aload_n C dX11_read_0 rfl rfl ?_
  refine g_iconst (v := (0 : Int32)) C dX11_read_1 (by decide) ?_
  refine put_X11_71 C dX11_read_2 (by decide) ?_
  refine g_aload_n C dX11_read_5 rfl rfl ?_
  refine g_aload_n C dX11_read_6 rfl rfl ?_
  refine g_iload_n C dX11_read_7 rfl rfl ?_
  refine g_iload_n C dX11_read_8 rfl rfl ?_
  obtain ⟨r2, hr2, h⟩ := Option.bind_eq_some_iff.mp h
  refine call_X11_94 C dX11_read_9 (by decide) (c_X11_placed E hr2) (by decide) rfl ?_
  refine put_X11_74 C dX11_read_12 (by decide) ?_
  refine g_aload_n C dX11_read_15 rfl rfl ?_
  refine get_X11_74 C dX11_read_16 (by decide) ?_
  refine g_if_le (tgt := 28) C dX11_read_19 (by decide) h (fun h => ?_) (fun h => ?_)
  · refine g_aload_n C dX11_read_28 rfl rfl ?_
    refine get_X11_20 C dX11_read_29 (by decide) ?_
    refine g_bipush (v := (60 : Int32)) C dX11_read_32 (by decide) ?_
    refine g_iload_n C dX11_read_34 rfl rfl ?_
    refine g_imul C dX11_read_35 ?_
    refine g_iload_n C dX11_read_36 rfl rfl ?_
    refine g_iadd C dX11_read_37 ?_
    obtain ⟨hb4, h⟩ := of_ite h
    refine ld_53 (j := _) C dX11_read_38 (by decide) hb4 rfl ?_
    exact g_lret C R dX11_read_39 (fst_of h) (snd_of h)
  · refine g_ldc2 C dX11_read_22 qc_X11_102 ?_
    refine g_goto (tgt := 39) C dX11_read_25 (by decide) ?_
    exact g_lret C R dX11_read_39 (fst_of h) (snd_of h)
noncomputable def f_X11_pour_182 (k158 : Int32 → Mem → Option (Int32 × Mem)) (x1 : Int32) (x2 : Int32) (x3 : Int32) (x4 : Int32) (x5 : Int32) (x6 : Int32) (x7 : Int32) (ps0 : Int32) (M : Mem) : Option (Int32 × Mem) :=
  if inb ((((60 : Int32) * x1) + x2) + ps0) 240 = true then
   if inb ((((60 : Int32) * x3) + x4) + ps0) 240 = true then
    let M25 := sL M 53 0 (vp_updL (M.2 53 0) (((((60 : Int32) * x3) + x4) + ps0).toNatClampNeg) (M.2 53 0 (((((60 : Int32) * x1) + x2) + ps0).toNatClampNeg)))
    k158 (x7 + (1 : Int32)) M25
   else none
  else none
noncomputable def f_X11_pour_158 (x1 : Int32) (x2 : Int32) (x3 : Int32) (x4 : Int32) (x5 : Int32) (x6 : Int32) : Nat → Int32 → Mem → Option (Int32 × Mem)
  | 0, _, _ => none
  | n + 1, x7, M =>
  if x7 < x5 then
    if x6 = 0 then
      f_X11_pour_182 (fun x7_26 M_26 =>
          f_X11_pour_158 x1 x2 x3 x4 x5 x6 n x7_26 M_26) x1 x2 x3 x4 x5 x6 x7 x7 M
    else
      f_X11_pour_182 (fun x7_27 M_27 =>
          f_X11_pour_158 x1 x2 x3 x4 x5 x6 n x7_27 M_27) x1 x2 x3 x4 x5 x6 x7 ((x5 - (1 : Int32)) - x7) M
  else
    some ((1 : Int32), M)
noncomputable def f_X11_pour (x1 : Int32) (x2 : Int32) (x3 : Int32) (x4 : Int32) (x5 : Int32) (M : Mem) : Option (Int32 × Mem) :=
  let M1 := sR M 50 0 (upd (M.1 50 0) 1 (0 : Int32))
  let M2 := sR M1 50 0 (upd (M1.1 50 0) 0 (0 : Int32))
  if x1 < 0 then
    (f_X11_no (1 : Int32) M2).bind fun q3 =>
    if isB q3.1 = true then some (q3.1, q3.2) else none
  else
    if x1 < (4 : Int32) then
      if x3 < 0 then
        (f_X11_no (1 : Int32) M2).bind fun q7 =>
        if isB q7.1 = true then some (q7.1, q7.2) else none
      else
        if x3 < (4 : Int32) then
          if inb x1 4 = true then
           if (M2.1 52 0 x1.toNatClampNeg) < 0 then
             (f_X11_no (3 : Int32) M2).bind fun q10 =>
             if isB q10.1 = true then some (q10.1, q10.2) else none
           else
             if inb x3 4 = true then
              if (M2.1 52 0 x3.toNatClampNeg) < 0 then
                (f_X11_no (3 : Int32) M2).bind fun q34 =>
                if isB q34.1 = true then some (q34.1, q34.2) else none
              else
                if inb x1 4 = true then
                 if inb x3 4 = true then
                  if (M2.1 51 0 x1.toNatClampNeg) = (M2.1 51 0 x3.toNatClampNeg) then
                    if x5 < 0 then
                      (f_X11_no (6 : Int32) M2).bind fun q30 =>
                      if isB q30.1 = true then some (q30.1, q30.2) else none
                    else
                      if x2 < 0 then
                        (f_X11_no (4 : Int32) M2).bind fun q15 =>
                        if isB q15.1 = true then some (q15.1, q15.2) else none
                      else
                        if x4 < 0 then
                          (f_X11_no (4 : Int32) M2).bind fun q17 =>
                          if isB q17.1 = true then some (q17.1, q17.2) else none
                        else
                          if inb x1 4 = true then
                           if 0 < (lg_cmp (x2.toInt64 + x5.toInt64) ((M2.1 52 0 x1.toNatClampNeg).toInt64)) then
                             (f_X11_no (4 : Int32) M2).bind fun q20 =>
                             if isB q20.1 = true then some (q20.1, q20.2) else none
                           else
                             if inb x3 4 = true then
                              if 0 < (lg_cmp (x4.toInt64 + x5.toInt64) ((M2.1 52 0 x3.toNatClampNeg).toInt64)) then
                                (f_X11_no (4 : Int32) M2).bind fun q28 =>
                                if isB q28.1 = true then some (q28.1, q28.2) else none
                              else
                                if x2 < x4 then
                                  f_X11_pour_158 x1 x2 x3 x4 x5 (1 : Int32) FU (0 : Int32) M2
                                else
                                  f_X11_pour_158 x1 x2 x3 x4 x5 (0 : Int32) FU (0 : Int32) M2
                             else none
                          else none
                  else
                    (f_X11_no (11 : Int32) M2).bind fun q32 =>
                    if isB q32.1 = true then some (q32.1, q32.2) else none
                 else none
                else none
             else none
          else none
        else
          (f_X11_no (1 : Int32) M2).bind fun q36 =>
          if isB q36.1 = true then some (q36.1, q36.2) else none
    else
      (f_X11_no (1 : Int32) M2).bind fun q5 =>
      if isB q5.1 = true then some (q5.1, q5.2) else none
set_option maxRecDepth 20000 in
set_option maxHeartbeats 2000000 in
theorem b_X11_pour_182 {E : wEnv} {Y : YT} (C : Cx E Y cX11_pour 9 RX11 1) {q : (Int32 × Mem)} (R : Rx E Y (some .boolean) (some (.int q.1)) q.2) {x1 : Int32} {x2 : Int32} {x3 : Int32} {x4 : Int32} {x5 : Int32} {x6 : Int32} {x7 : Int32} {ps0 : Int32} {k158 : Int32 → Mem → Option (Int32 × Mem)} (hk158 : ∀ {x7 : Int32} {M : Mem} , k158 x7 M = some q → G E Y 9 M 158 [(0, .ref (ad E 50 0)), (1, .int x1), (2, .int x2), (3, .int x3), (4, .int x4), (5, .int x5), (6, .int x6), (7, .int x7)] []) {M : Mem} (h : f_X11_pour_182 k158 x1 x2 x3 x4 x5 x6 x7 ps0 M = some q) : G E Y 9 M 182 [(0, .ref (ad E 50 0)), (1, .int x1), (2, .int x2), (3, .int x3), (4, .int x4), (5, .int x5), (6, .int x6), (7, .int x7)] [.int ps0] := by
  unfold f_X11_pour_182 at h
  refine g_istore C dX11_pour_182 rfl ?_
  refine g_aload_n C dX11_pour_184 rfl rfl ?_
  refine get_X11_20 C dX11_pour_185 (by decide) ?_
  refine g_bipush (v := (60 : Int32)) C dX11_pour_188 (by decide) ?_
  refine g_iload_n C dX11_pour_190 rfl rfl ?_
  refine g_imul C dX11_pour_191 ?_
  refine g_iload C dX11_pour_192 rfl ?_
  refine g_iadd C dX11_pour_194 ?_
  refine g_iload C dX11_pour_195 rfl ?_
  refine g_iadd C dX11_pour_197 ?_
  refine g_aload_n C dX11_pour_198 rfl rfl ?_
  refine get_X11_20 C dX11_pour_199 (by decide) ?_
  refine g_bipush (v := (60 : Int32)) C dX11_pour_202 (by decide) ?_
  refine g_iload_n C dX11_pour_204 rfl rfl ?_
  refine g_imul C dX11_pour_205 ?_
  refine g_iload_n C dX11_pour_206 rfl rfl ?_
  refine g_iadd C dX11_pour_207 ?_
  refine g_iload C dX11_pour_208 rfl ?_
  refine g_iadd C dX11_pour_210 ?_
  obtain ⟨hb23, h⟩ := of_ite h
  refine ld_53 (j := _) C dX11_pour_211 (by decide) hb23 rfl ?_
  obtain ⟨hb24, h⟩ := of_ite h
  refine st_53 (j := _) C dX11_pour_212 (by decide) hb24 rfl ?_
  refine g_iinc (w := (1 : Int32)) C dX11_pour_213 rfl (by decide) rfl ?_
  refine g_goto (tgt := 158) C dX11_pour_216 (by decide) ?_
  exact g_sub (hk158 h) ⟨rfl, rfl, rfl, rfl, rfl, rfl, rfl, rfl, trivial⟩
set_option maxRecDepth 20000 in
set_option maxHeartbeats 2000000 in
theorem b_X11_pour_158 {E : wEnv} {Y : YT} (C : Cx E Y cX11_pour 9 RX11 1) {q : (Int32 × Mem)} (R : Rx E Y (some .boolean) (some (.int q.1)) q.2) {x1 : Int32} {x2 : Int32} {x3 : Int32} {x4 : Int32} {x5 : Int32} {x6 : Int32} (n : Nat) : ∀ {x7 : Int32} {M : Mem} (_ : f_X11_pour_158 x1 x2 x3 x4 x5 x6 n x7 M = some q), G E Y 9 M 158 [(0, .ref (ad E 50 0)), (1, .int x1), (2, .int x2), (3, .int x3), (4, .int x4), (5, .int x5), (6, .int x6), (7, .int x7)] [] := by
  induction n with
  | zero =>
    intro x7 M h
    cases (show none = some q from h)
  | succ n ih =>
    intro x7 M h
    rw [f_X11_pour_158] at h
    refine g_iload C dX11_pour_158 rfl ?_
    refine g_iload C dX11_pour_160 rfl ?_
    refine g_icmp_ge (tgt := 219) C dX11_pour_162 (by decide) h (fun h => ?_) (fun h => ?_)
    · refine g_iconst (v := (1 : Int32)) C dX11_pour_219 (by decide) ?_
      exact g_zret C R dX11_pour_220 (fst_of h) (Or.inr rfl) (snd_of h)
    · refine g_iload C dX11_pour_165 rfl ?_
      refine g_if_eq (tgt := 180) C dX11_pour_167 (by decide) h (fun h => ?_) (fun h => ?_)
      · refine g_iload C dX11_pour_180 rfl ?_
        refine g_sub (b_X11_pour_182 C R ?_  h) ⟨rfl, rfl, rfl, rfl, rfl, rfl, rfl, rfl, trivial⟩
        · clear h
          intro x7_26 M_26 h
          exact g_sub (ih h) ⟨rfl, rfl, rfl, rfl, rfl, rfl, rfl, rfl, trivial⟩
      · refine g_iload C dX11_pour_170 rfl ?_
        refine g_iconst (v := (1 : Int32)) C dX11_pour_172 (by decide) ?_
        refine g_isub C dX11_pour_173 ?_
        refine g_iload C dX11_pour_174 rfl ?_
        refine g_isub C dX11_pour_176 ?_
        refine g_goto (tgt := 182) C dX11_pour_177 (by decide) ?_
        refine g_sub (b_X11_pour_182 C R ?_  h) ⟨rfl, rfl, rfl, rfl, rfl, rfl, rfl, rfl, trivial⟩
        · clear h
          intro x7_27 M_27 h
          exact g_sub (ih h) ⟨rfl, rfl, rfl, rfl, rfl, rfl, rfl, rfl, trivial⟩
set_option maxRecDepth 20000 in
set_option maxHeartbeats 2000000 in
theorem c_X11_pour (E : wEnv) {x1 : Int32} {x2 : Int32} {x3 : Int32} {x4 : Int32} {x5 : Int32} {M : Mem} {q : (Int32 × Mem)} (h : f_X11_pour x1 x2 x3 x4 x5 M = some q) : Mt E yX11_pour cX11_pour 9 (some .boolean) 1 [.ref (ad E 50 0), .int x1, .int x2, .int x3, .int x4, .int x5] M (some (.int q.1)) q.2 := by
  unfold f_X11_pour at h
  refine mt_intro (own := RX11) (lv0 := [(0, .ref (ad E 50 0)), (1, .int x1), (2, .int x2), (3, .int x3), (4, .int x4), (5, .int x5)]) (by decide) rfl rfl rfl (fun Y C R => ?_)
  refine g_aload_n C dX11_pour_0 rfl rfl ?_
  refine g_iconst (v := (0 : Int32)) C dX11_pour_1 (by decide) ?_
  refine put_X11_71 C dX11_pour_2 (by decide) ?_
  refine g_aload_n C dX11_pour_5 rfl rfl ?_
  refine g_iconst (v := (0 : Int32)) C dX11_pour_6 (by decide) ?_
  refine put_X11_74 C dX11_pour_7 (by decide) ?_
  refine g_iload_n C dX11_pour_10 rfl rfl ?_
  refine g_if_lt (tgt := 28) C dX11_pour_11 (by decide) h (fun h => ?_) (fun h => ?_)
  · refine g_aload_n C dX11_pour_28 rfl rfl ?_
    refine g_iconst (v := (1 : Int32)) C dX11_pour_29 (by decide) ?_
    obtain ⟨q3, hr3, h⟩ := Option.bind_eq_some_iff.mp h
    refine call_X11_86 C dX11_pour_30 (by decide) (c_X11_no E hr3) (by decide) rfl ?_
    obtain ⟨hz4, h⟩ := of_ite h
    exact g_zret C R dX11_pour_33 (fst_of h) (isB_of hz4) (snd_of h)
  · refine g_iload_n C dX11_pour_14 rfl rfl ?_
    refine g_iconst (v := (4 : Int32)) C dX11_pour_15 (by decide) ?_
    refine g_icmp_ge (tgt := 28) C dX11_pour_16 (by decide) h (fun h => ?_) (fun h => ?_)
    · refine g_aload_n C dX11_pour_28 rfl rfl ?_
      refine g_iconst (v := (1 : Int32)) C dX11_pour_29 (by decide) ?_
      obtain ⟨q5, hr5, h⟩ := Option.bind_eq_some_iff.mp h
      refine call_X11_86 C dX11_pour_30 (by decide) (c_X11_no E hr5) (by decide) rfl ?_
      obtain ⟨hz6, h⟩ := of_ite h
      exact g_zret C R dX11_pour_33 (fst_of h) (isB_of hz6) (snd_of h)
    · refine g_iload_n C dX11_pour_19 rfl rfl ?_
      refine g_if_lt (tgt := 28) C dX11_pour_20 (by decide) h (fun h => ?_) (fun h => ?_)
      · refine g_aload_n C dX11_pour_28 rfl rfl ?_
        refine g_iconst (v := (1 : Int32)) C dX11_pour_29 (by decide) ?_
        obtain ⟨q7, hr7, h⟩ := Option.bind_eq_some_iff.mp h
        refine call_X11_86 C dX11_pour_30 (by decide) (c_X11_no E hr7) (by decide) rfl ?_
        obtain ⟨hz8, h⟩ := of_ite h
        exact g_zret C R dX11_pour_33 (fst_of h) (isB_of hz8) (snd_of h)
      · refine g_iload_n C dX11_pour_23 rfl rfl ?_
        refine g_iconst (v := (4 : Int32)) C dX11_pour_24 (by decide) ?_
        refine g_icmp_lt (tgt := 34) C dX11_pour_25 (by decide) h (fun h => ?_) (fun h => ?_)
        · refine g_aload_n C dX11_pour_34 rfl rfl ?_
          refine get_X11_17 C dX11_pour_35 (by decide) ?_
          refine g_iload_n C dX11_pour_38 rfl rfl ?_
          obtain ⟨hb9, h⟩ := of_ite h
          refine ld_52 (j := _) C dX11_pour_39 (by decide) hb9 rfl ?_
          refine g_if_lt (tgt := 52) C dX11_pour_40 (by decide) h (fun h => ?_) (fun h => ?_)
          · refine g_aload_n C dX11_pour_52 rfl rfl ?_
            refine g_iconst (v := (3 : Int32)) C dX11_pour_53 (by decide) ?_
            obtain ⟨q10, hr10, h⟩ := Option.bind_eq_some_iff.mp h
            refine call_X11_86 C dX11_pour_54 (by decide) (c_X11_no E hr10) (by decide) rfl ?_
            obtain ⟨hz11, h⟩ := of_ite h
            exact g_zret C R dX11_pour_57 (fst_of h) (isB_of hz11) (snd_of h)
          · refine g_aload_n C dX11_pour_43 rfl rfl ?_
            refine get_X11_17 C dX11_pour_44 (by decide) ?_
            refine g_iload_n C dX11_pour_47 rfl rfl ?_
            obtain ⟨hb12, h⟩ := of_ite h
            refine ld_52 (j := _) C dX11_pour_48 (by decide) hb12 rfl ?_
            refine g_if_ge (tgt := 58) C dX11_pour_49 (by decide) h (fun h => ?_) (fun h => ?_)
            · refine g_aload_n C dX11_pour_58 rfl rfl ?_
              refine get_X11_13 C dX11_pour_59 (by decide) ?_
              refine g_iload_n C dX11_pour_62 rfl rfl ?_
              obtain ⟨hb13, h⟩ := of_ite h
              refine ld_51 (j := _) C dX11_pour_63 (by decide) hb13 rfl ?_
              refine g_aload_n C dX11_pour_64 rfl rfl ?_
              refine get_X11_13 C dX11_pour_65 (by decide) ?_
              refine g_iload_n C dX11_pour_68 rfl rfl ?_
              obtain ⟨hb14, h⟩ := of_ite h
              refine ld_51 (j := _) C dX11_pour_69 (by decide) hb14 rfl ?_
              refine g_icmp_eq (tgt := 80) C dX11_pour_70 (by decide) h (fun h => ?_) (fun h => ?_)
              · refine g_iload C dX11_pour_80 rfl ?_
                refine g_if_ge (tgt := 92) C dX11_pour_82 (by decide) h (fun h => ?_) (fun h => ?_)
                · refine g_iload_n C dX11_pour_92 rfl rfl ?_
                  refine g_if_lt (tgt := 136) C dX11_pour_93 (by decide) h (fun h => ?_) (fun h => ?_)
                  · refine g_aload_n C dX11_pour_136 rfl rfl ?_
                    refine g_iconst (v := (4 : Int32)) C dX11_pour_137 (by decide) ?_
                    obtain ⟨q15, hr15, h⟩ := Option.bind_eq_some_iff.mp h
                    refine call_X11_86 C dX11_pour_138 (by decide) (c_X11_no E hr15) (by decide) rfl ?_
                    obtain ⟨hz16, h⟩ := of_ite h
                    exact g_zret C R dX11_pour_141 (fst_of h) (isB_of hz16) (snd_of h)
                  · refine g_iload C dX11_pour_96 rfl ?_
                    refine g_if_lt (tgt := 136) C dX11_pour_98 (by decide) h (fun h => ?_) (fun h => ?_)
                    · refine g_aload_n C dX11_pour_136 rfl rfl ?_
                      refine g_iconst (v := (4 : Int32)) C dX11_pour_137 (by decide) ?_
                      obtain ⟨q17, hr17, h⟩ := Option.bind_eq_some_iff.mp h
                      refine call_X11_86 C dX11_pour_138 (by decide) (c_X11_no E hr17) (by decide) rfl ?_
                      obtain ⟨hz18, h⟩ := of_ite h
                      exact g_zret C R dX11_pour_141 (fst_of h) (isB_of hz18) (snd_of h)
                    · refine g_iload_n C dX11_pour_101 rfl rfl ?_
                      refine g_i2l C dX11_pour_102 ?_
                      refine g_iload C dX11_pour_103 rfl ?_
                      refine g_i2l C dX11_pour_105 ?_
                      refine g_ladd C dX11_pour_106 ?_
                      refine g_aload_n C dX11_pour_107 rfl rfl ?_
                      refine get_X11_17 C dX11_pour_108 (by decide) ?_
                      refine g_iload_n C dX11_pour_111 rfl rfl ?_
                      obtain ⟨hb19, h⟩ := of_ite h
                      refine ld_52 (j := _) C dX11_pour_112 (by decide) hb19 rfl ?_
                      refine g_i2l C dX11_pour_113 ?_
                      refine g_lcmp C dX11_pour_114 ?_
                      refine g_if_gt (tgt := 136) C dX11_pour_115 (by decide) h (fun h => ?_) (fun h => ?_)
                      · refine g_aload_n C dX11_pour_136 rfl rfl ?_
                        refine g_iconst (v := (4 : Int32)) C dX11_pour_137 (by decide) ?_
                        obtain ⟨q20, hr20, h⟩ := Option.bind_eq_some_iff.mp h
                        refine call_X11_86 C dX11_pour_138 (by decide) (c_X11_no E hr20) (by decide) rfl ?_
                        obtain ⟨hz21, h⟩ := of_ite h
                        exact g_zret C R dX11_pour_141 (fst_of h) (isB_of hz21) (snd_of h)
                      · refine g_iload C dX11_pour_118 rfl ?_
                        refine g_i2l C dX11_pour_120 ?_
                        refine g_iload C dX11_pour_121 rfl ?_
                        refine g_i2l C dX11_pour_123 ?_
                        refine g_ladd C dX11_pour_124 ?_
                        refine g_aload_n C dX11_pour_125 rfl rfl ?_
                        refine get_X11_17 C dX11_pour_126 (by decide) ?_
                        refine g_iload_n C dX11_pour_129 rfl rfl ?_
                        obtain ⟨hb22, h⟩ := of_ite h
                        refine ld_52 (j := _) C dX11_pour_130 (by decide) hb22 rfl ?_
                        refine g_i2l C dX11_pour_131 ?_
                        refine g_lcmp C dX11_pour_132 ?_
                        refine g_if_le (tgt := 142) C dX11_pour_133 (by decide) h (fun h => ?_) (fun h => ?_)
                        · refine g_iload_n C dX11_pour_142 rfl rfl ?_
                          refine g_iload C dX11_pour_143 rfl ?_
                          refine g_icmp_ge (tgt := 152) C dX11_pour_145 (by decide) h (fun h => ?_) (fun h => ?_)
                          · refine g_iconst (v := (0 : Int32)) C dX11_pour_152 (by decide) ?_
                            refine g_istore C dX11_pour_153 rfl ?_
                            refine g_iconst (v := (0 : Int32)) C dX11_pour_155 (by decide) ?_
                            refine g_istore C dX11_pour_156 rfl ?_
                            exact g_sub (b_X11_pour_158 C R _ h) ⟨rfl, rfl, rfl, rfl, rfl, rfl, rfl, rfl, trivial⟩
                          · refine g_iconst (v := (1 : Int32)) C dX11_pour_148 (by decide) ?_
                            refine g_goto (tgt := 153) C dX11_pour_149 (by decide) ?_
                            refine g_istore C dX11_pour_153 rfl ?_
                            refine g_iconst (v := (0 : Int32)) C dX11_pour_155 (by decide) ?_
                            refine g_istore C dX11_pour_156 rfl ?_
                            exact g_sub (b_X11_pour_158 C R _ h) ⟨rfl, rfl, rfl, rfl, rfl, rfl, rfl, rfl, trivial⟩
                        · refine g_aload_n C dX11_pour_136 rfl rfl ?_
                          refine g_iconst (v := (4 : Int32)) C dX11_pour_137 (by decide) ?_
                          obtain ⟨q28, hr28, h⟩ := Option.bind_eq_some_iff.mp h
                          refine call_X11_86 C dX11_pour_138 (by decide) (c_X11_no E hr28) (by decide) rfl ?_
                          obtain ⟨hz29, h⟩ := of_ite h
                          exact g_zret C R dX11_pour_141 (fst_of h) (isB_of hz29) (snd_of h)
                · refine g_aload_n C dX11_pour_85 rfl rfl ?_
                  refine g_bipush (v := (6 : Int32)) C dX11_pour_86 (by decide) ?_
                  obtain ⟨q30, hr30, h⟩ := Option.bind_eq_some_iff.mp h
                  refine call_X11_86 C dX11_pour_88 (by decide) (c_X11_no E hr30) (by decide) rfl ?_
                  obtain ⟨hz31, h⟩ := of_ite h
                  exact g_zret C R dX11_pour_91 (fst_of h) (isB_of hz31) (snd_of h)
              · refine g_aload_n C dX11_pour_73 rfl rfl ?_
                refine g_bipush (v := (11 : Int32)) C dX11_pour_74 (by decide) ?_
                obtain ⟨q32, hr32, h⟩ := Option.bind_eq_some_iff.mp h
                refine call_X11_86 C dX11_pour_76 (by decide) (c_X11_no E hr32) (by decide) rfl ?_
                obtain ⟨hz33, h⟩ := of_ite h
                exact g_zret C R dX11_pour_79 (fst_of h) (isB_of hz33) (snd_of h)
            · refine g_aload_n C dX11_pour_52 rfl rfl ?_
              refine g_iconst (v := (3 : Int32)) C dX11_pour_53 (by decide) ?_
              obtain ⟨q34, hr34, h⟩ := Option.bind_eq_some_iff.mp h
              refine call_X11_86 C dX11_pour_54 (by decide) (c_X11_no E hr34) (by decide) rfl ?_
              obtain ⟨hz35, h⟩ := of_ite h
              exact g_zret C R dX11_pour_57 (fst_of h) (isB_of hz35) (snd_of h)
        · refine g_aload_n C dX11_pour_28 rfl rfl ?_
          refine g_iconst (v := (1 : Int32)) C dX11_pour_29 (by decide) ?_
          obtain ⟨q36, hr36, h⟩ := Option.bind_eq_some_iff.mp h
          refine call_X11_86 C dX11_pour_30 (by decide) (c_X11_no E hr36) (by decide) rfl ?_
          obtain ⟨hz37, h⟩ := of_ite h
          exact g_zret C R dX11_pour_33 (fst_of h) (isB_of hz37) (snd_of h)
noncomputable def f_X11_numberOf (x1 : Int32) (x2 : Int32) (M : Mem) : Option Int64 :=
  if inb (((60 : Int32) * x1) + x2) 240 = true then
   some (M.2 53 0 ((((60 : Int32) * x1) + x2).toNatClampNeg))
  else none
set_option maxRecDepth 20000 in
set_option maxHeartbeats 2000000 in
theorem c_X11_numberOf (E : wEnv) {x1 : Int32} {x2 : Int32} {M : Mem} {q : Int64} (h : f_X11_numberOf x1 x2 M = some q) : Mt E yX11_numberOf cX11_numberOf 3 (some .long) 0 [.ref (ad E 50 0), .int x1, .int x2] M (some (.long q)) M := by
  unfold f_X11_numberOf at h
  refine mt_intro (own := RX11) (lv0 := [(0, .ref (ad E 50 0)), (1, .int x1), (2, .int x2)]) (by decide) rfl rfl rfl (fun Y C R => ?_)
  refine g_aload_n C dX11_numberOf_0 rfl rfl ?_
  refine get_X11_20 C dX11_numberOf_1 (by decide) ?_
  refine g_bipush (v := (60 : Int32)) C dX11_numberOf_4 (by decide) ?_
  refine g_iload_n C dX11_numberOf_6 rfl rfl ?_
  refine g_imul C dX11_numberOf_7 ?_
  refine g_iload_n C dX11_numberOf_8 rfl rfl ?_
  refine g_iadd C dX11_numberOf_9 ?_
  obtain ⟨hb1, h⟩ := of_ite h
  refine ld_53 (j := _) C dX11_numberOf_10 (by decide) hb1 rfl ?_
  exact g_lret C R dX11_numberOf_11 (Option.some.inj h) rfl
noncomputable def f_X11_isTray (x1 : Int32) : Option Int32 :=
  (f_X11_isIn x1.toInt64 (0 : Int64) (3 : Int64)).bind fun r1 =>
  if isB r1 = true then some r1 else none
set_option maxRecDepth 20000 in
set_option maxHeartbeats 2000000 in
theorem c_X11_isTray (E : wEnv) {x1 : Int32} {M : Mem} {q : Int32} (h : f_X11_isTray x1 = some q) : Mt E yX11_isTray cX11_isTray 2 (some .boolean) 1 [.ref (ad E 50 0), .int x1] M (some (.int q)) M := by
  unfold f_X11_isTray at h
  refine mt_intro (own := RX11) (lv0 := [(0, .ref (ad E 50 0)), (1, .int x1)]) (by decide) rfl rfl rfl (fun Y C R => ?_)
  refine g_iload_n C dX11_isTray_0 rfl rfl ?_
  refine g_i2l C dX11_isTray_1 ?_
  refine g_lconst (v := (0 : Int64)) C dX11_isTray_2 (by decide) ?_
  refine g_ldc2 C dX11_isTray_3 qc_X11_104 ?_
  obtain ⟨r1, hr1, h⟩ := Option.bind_eq_some_iff.mp h
  refine call_X11_106 C dX11_isTray_6 (c_X11_isIn E hr1) (by decide) rfl ?_
  obtain ⟨hz2, h⟩ := of_ite h
  exact g_zret C R dX11_isTray_9 (Option.some.inj h) (isB_of hz2) rfl
noncomputable def f_X11_has (x0 : Int32) (x1 : Int32) : Option Int32 :=
  if ((x0 >>> (x1 &&& 31)) &&& (1 : Int32)) = (1 : Int32) then
    some (1 : Int32)
  else
    some (0 : Int32)
set_option maxRecDepth 20000 in
set_option maxHeartbeats 2000000 in
theorem c_X11_has (E : wEnv) {x0 : Int32} {x1 : Int32} {M : Mem} {q : Int32} (h : f_X11_has x0 x1 = some q) : Mt E yX11_has cX11_has 2 (some .boolean) 0 [.int x0, .int x1] M (some (.int q)) M := by
  unfold f_X11_has at h
  refine mt_intro (own := RX11) (lv0 := [(0, .int x0), (1, .int x1)]) (by decide) rfl rfl rfl (fun Y C R => ?_)
  refine g_iload_n C dX11_has_0 rfl rfl ?_
  refine g_iload_n C dX11_has_1 rfl rfl ?_
  refine g_ishr C dX11_has_2 ?_
  refine g_iconst (v := (1 : Int32)) C dX11_has_3 (by decide) ?_
  refine g_iand C dX11_has_4 ?_
  refine g_iconst (v := (1 : Int32)) C dX11_has_5 (by decide) ?_
  refine g_icmp_ne (tgt := 13) C dX11_has_6 (by decide) h (fun h => ?_) (fun h => ?_)
  · refine g_iconst (v := (0 : Int32)) C dX11_has_13 (by decide) ?_
    exact g_zret C R dX11_has_14 (Option.some.inj h) (Or.inl rfl) rfl
  · refine g_iconst (v := (1 : Int32)) C dX11_has_9 (by decide) ?_
    refine g_goto (tgt := 14) C dX11_has_10 (by decide) ?_
    exact g_zret C R dX11_has_14 (Option.some.inj h) (Or.inr rfl) rfl
noncomputable def f_X11_sizeOf_4 (x0 : Int32) : Nat → Int32 → Int32 → Option Int32
  | 0, _, _ => none
  | n + 1, x1, x2 =>
  if x2 < (10 : Int32) then
    (f_X11_has x0 x2).bind fun r1 =>
    if r1 = 0 then
      f_X11_sizeOf_4 x0 n (x1 + (0 : Int32)) (x2 + (1 : Int32))
    else
      f_X11_sizeOf_4 x0 n (x1 + (1 : Int32)) (x2 + (1 : Int32))
  else
    some x1
noncomputable def f_X11_sizeOf (x0 : Int32) : Option Int32 :=
  f_X11_sizeOf_4 x0 FU (0 : Int32) (0 : Int32)
set_option maxRecDepth 20000 in
set_option maxHeartbeats 2000000 in
theorem b_X11_sizeOf_4 {E : wEnv} {Y : YT} (C : Cx E Y cX11_sizeOf 3 RX11 1) {q : Int32} {M : Mem} (R : Rx E Y (some .int) (some (.int q)) M) {x0 : Int32} (n : Nat) : ∀ {x1 : Int32} {x2 : Int32} (_ : f_X11_sizeOf_4 x0 n x1 x2 = some q), G E Y 3 M 4 [(0, .int x0), (1, .int x1), (2, .int x2)] [] := by
  induction n with
  | zero =>
    intro x1 x2 h
    cases (show none = some q from h)
  | succ n ih =>
    intro x1 x2 h
    rw [f_X11_sizeOf_4] at h
    refine g_iload_n C dX11_sizeOf_4 rfl rfl ?_
    refine g_bipush (v := (10 : Int32)) C dX11_sizeOf_5 (by decide) ?_
    refine g_icmp_ge (tgt := 32) C dX11_sizeOf_7 (by decide) h (fun h => ?_) (fun h => ?_)
    · refine g_iload_n C dX11_sizeOf_32 rfl rfl ?_
      exact g_iret C R dX11_sizeOf_33 (Option.some.inj h) rfl
    · refine g_iload_n C dX11_sizeOf_10 rfl rfl ?_
      refine g_iload_n C dX11_sizeOf_11 rfl rfl ?_
      refine g_iload_n C dX11_sizeOf_12 rfl rfl ?_
      obtain ⟨r1, hr1, h⟩ := Option.bind_eq_some_iff.mp h
      refine call_X11_110 C dX11_sizeOf_13 (c_X11_has E hr1) (by decide) rfl ?_
      refine g_if_eq (tgt := 23) C dX11_sizeOf_16 (by decide) h (fun h => ?_) (fun h => ?_)
      · refine g_iconst (v := (0 : Int32)) C dX11_sizeOf_23 (by decide) ?_
        refine g_iadd C dX11_sizeOf_24 ?_
        refine g_istore_n C dX11_sizeOf_25 rfl rfl ?_
        refine g_iinc (w := (1 : Int32)) C dX11_sizeOf_26 rfl (by decide) rfl ?_
        refine g_goto (tgt := 4) C dX11_sizeOf_29 (by decide) ?_
        exact g_sub (ih h) ⟨rfl, rfl, rfl, trivial⟩
      · refine g_iconst (v := (1 : Int32)) C dX11_sizeOf_19 (by decide) ?_
        refine g_goto (tgt := 24) C dX11_sizeOf_20 (by decide) ?_
        refine g_iadd C dX11_sizeOf_24 ?_
        refine g_istore_n C dX11_sizeOf_25 rfl rfl ?_
        refine g_iinc (w := (1 : Int32)) C dX11_sizeOf_26 rfl (by decide) rfl ?_
        refine g_goto (tgt := 4) C dX11_sizeOf_29 (by decide) ?_
        exact g_sub (ih h) ⟨rfl, rfl, rfl, trivial⟩
set_option maxRecDepth 20000 in
set_option maxHeartbeats 2000000 in
theorem c_X11_sizeOf (E : wEnv) {x0 : Int32} {M : Mem} {q : Int32} (h : f_X11_sizeOf x0 = some q) : Mt E yX11_sizeOf cX11_sizeOf 3 (some .int) 1 [.int x0] M (some (.int q)) M := by
  unfold f_X11_sizeOf at h
  refine mt_intro (own := RX11) (lv0 := [(0, .int x0)]) (by decide) rfl rfl rfl (fun Y C R => ?_)
  refine g_iconst (v := (0 : Int32)) C dX11_sizeOf_0 (by decide) ?_
  refine g_istore_n C dX11_sizeOf_1 rfl rfl ?_
  refine g_iconst (v := (0 : Int32)) C dX11_sizeOf_2 (by decide) ?_
  refine g_istore_n C dX11_sizeOf_3 rfl rfl ?_
  exact g_sub (b_X11_sizeOf_4 C R _ h) ⟨rfl, rfl, rfl, trivial⟩
noncomputable def f_X11_look2 (x1 : Int32) (M : Mem) : Option Int32 :=
  if x1 < (M.1 50 0 9) then
    if inb x1 900 = true then
     some ((M.1 54 0 x1.toNatClampNeg) &&& (255 : Int32))
    else none
  else
    some (0 : Int32)
set_option maxRecDepth 20000 in
set_option maxHeartbeats 2000000 in
theorem c_X11_look2 (E : wEnv) {x1 : Int32} {M : Mem} {q : Int32} (h : f_X11_look2 x1 M = some q) : Mt E yX11_look2 cX11_look2 2 (some .int) 0 [.ref (ad E 50 0), .int x1] M (some (.int q)) M := by
  unfold f_X11_look2 at h
  refine mt_intro (own := RX11) (lv0 := [(0, .ref (ad E 50 0)), (1, .int x1)]) (by decide) rfl rfl rfl (fun Y C R => ?_)
  refine g_iload_n C dX11_look2_0 rfl rfl ?_
  refine g_aload_n C dX11_look2_1 rfl rfl ?_
  refine get_X11_114 C dX11_look2_2 (by decide) ?_
  refine g_icmp_ge (tgt := 21) C dX11_look2_5 (by decide) h (fun h => ?_) (fun h => ?_)
  · refine g_iconst (v := (0 : Int32)) C dX11_look2_21 (by decide) ?_
    exact g_iret C R dX11_look2_22 (Option.some.inj h) rfl
  · refine g_aload_n C dX11_look2_8 rfl rfl ?_
    refine get_X11_24 C dX11_look2_9 (by decide) ?_
    refine g_iload_n C dX11_look2_12 rfl rfl ?_
    obtain ⟨hb1, h⟩ := of_ite h
    refine ld_54 (j := _) C dX11_look2_13 (by decide) hb1 rfl ?_
    refine g_sipush (v := (255 : Int32)) C dX11_look2_14 (by decide) ?_
    refine g_iand C dX11_look2_17 ?_
    refine g_goto (tgt := 22) C dX11_look2_18 (by decide) ?_
    exact g_iret C R dX11_look2_22 (Option.some.inj h) rfl
noncomputable def f_X11_isLetter (x0 : Int32) : Option Int32 :=
  if x0 < (97 : Int32) then
    some (0 : Int32)
  else
    if (122 : Int32) < x0 then
      some (0 : Int32)
    else
      some (1 : Int32)
set_option maxRecDepth 20000 in
set_option maxHeartbeats 2000000 in
theorem c_X11_isLetter (E : wEnv) {x0 : Int32} {M : Mem} {q : Int32} (h : f_X11_isLetter x0 = some q) : Mt E yX11_isLetter cX11_isLetter 1 (some .boolean) 0 [.int x0] M (some (.int q)) M := by
  unfold f_X11_isLetter at h
  refine mt_intro (own := RX11) (lv0 := [(0, .int x0)]) (by decide) rfl rfl rfl (fun Y C R => ?_)
  refine g_iload_n C dX11_isLetter_0 rfl rfl ?_
  refine g_bipush (v := (97 : Int32)) C dX11_isLetter_1 (by decide) ?_
  refine g_icmp_lt (tgt := 16) C dX11_isLetter_3 (by decide) h (fun h => ?_) (fun h => ?_)
  · refine g_iconst (v := (0 : Int32)) C dX11_isLetter_16 (by decide) ?_
    exact g_zret C R dX11_isLetter_17 (Option.some.inj h) (Or.inl rfl) rfl
  · refine g_iload_n C dX11_isLetter_6 rfl rfl ?_
    refine g_bipush (v := (122 : Int32)) C dX11_isLetter_7 (by decide) ?_
    refine g_icmp_gt (tgt := 16) C dX11_isLetter_9 (by decide) h (fun h => ?_) (fun h => ?_)
    · refine g_iconst (v := (0 : Int32)) C dX11_isLetter_16 (by decide) ?_
      exact g_zret C R dX11_isLetter_17 (Option.some.inj h) (Or.inl rfl) rfl
    · refine g_iconst (v := (1 : Int32)) C dX11_isLetter_12 (by decide) ?_
      refine g_goto (tgt := 17) C dX11_isLetter_13 (by decide) ?_
      exact g_zret C R dX11_isLetter_17 (Option.some.inj h) (Or.inr rfl) rfl
noncomputable def f_X11_isDigit (x0 : Int32) : Option Int32 :=
  if x0 < (48 : Int32) then
    some (0 : Int32)
  else
    if (57 : Int32) < x0 then
      some (0 : Int32)
    else
      some (1 : Int32)
set_option maxRecDepth 20000 in
set_option maxHeartbeats 2000000 in
theorem c_X11_isDigit (E : wEnv) {x0 : Int32} {M : Mem} {q : Int32} (h : f_X11_isDigit x0 = some q) : Mt E yX11_isDigit cX11_isDigit 1 (some .boolean) 0 [.int x0] M (some (.int q)) M := by
  unfold f_X11_isDigit at h
  refine mt_intro (own := RX11) (lv0 := [(0, .int x0)]) (by decide) rfl rfl rfl (fun Y C R => ?_)
  refine g_iload_n C dX11_isDigit_0 rfl rfl ?_
  refine g_bipush (v := (48 : Int32)) C dX11_isDigit_1 (by decide) ?_
  refine g_icmp_lt (tgt := 16) C dX11_isDigit_3 (by decide) h (fun h => ?_) (fun h => ?_)
  · refine g_iconst (v := (0 : Int32)) C dX11_isDigit_16 (by decide) ?_
    exact g_zret C R dX11_isDigit_17 (Option.some.inj h) (Or.inl rfl) rfl
  · refine g_iload_n C dX11_isDigit_6 rfl rfl ?_
    refine g_bipush (v := (57 : Int32)) C dX11_isDigit_7 (by decide) ?_
    refine g_icmp_gt (tgt := 16) C dX11_isDigit_9 (by decide) h (fun h => ?_) (fun h => ?_)
    · refine g_iconst (v := (0 : Int32)) C dX11_isDigit_16 (by decide) ?_
      exact g_zret C R dX11_isDigit_17 (Option.some.inj h) (Or.inl rfl) rfl
    · refine g_iconst (v := (1 : Int32)) C dX11_isDigit_12 (by decide) ?_
      refine g_goto (tgt := 17) C dX11_isDigit_13 (by decide) ?_
      exact g_zret C R dX11_isDigit_17 (Option.some.inj h) (Or.inr rfl) rfl
noncomputable def f_X11_isSignByte (x1 : Int32) : Option Int32 :=
  if x1 = (59 : Int32) then
    some (1 : Int32)
  else
    if x1 = (60 : Int32) then
      some (1 : Int32)
    else
      if x1 = (62 : Int32) then
        some (1 : Int32)
      else
        if x1 = (61 : Int32) then
          some (1 : Int32)
        else
          some (0 : Int32)
set_option maxRecDepth 20000 in
set_option maxHeartbeats 2000000 in
theorem c_X11_isSignByte (E : wEnv) {x1 : Int32} {M : Mem} {q : Int32} (h : f_X11_isSignByte x1 = some q) : Mt E yX11_isSignByte cX11_isSignByte 2 (some .boolean) 0 [.ref (ad E 50 0), .int x1] M (some (.int q)) M := by
  unfold f_X11_isSignByte at h
  refine mt_intro (own := RX11) (lv0 := [(0, .ref (ad E 50 0)), (1, .int x1)]) (by decide) rfl rfl rfl (fun Y C R => ?_)
  refine g_iload_n C dX11_isSignByte_0 rfl rfl ?_
  refine g_bipush (v := (59 : Int32)) C dX11_isSignByte_1 (by decide) ?_
  refine g_icmp_eq (tgt := 24) C dX11_isSignByte_3 (by decide) h (fun h => ?_) (fun h => ?_)
  · refine g_iconst (v := (1 : Int32)) C dX11_isSignByte_24 (by decide) ?_
    refine g_goto (tgt := 29) C dX11_isSignByte_25 (by decide) ?_
    exact g_zret C R dX11_isSignByte_29 (Option.some.inj h) (Or.inr rfl) rfl
  · refine g_iload_n C dX11_isSignByte_6 rfl rfl ?_
    refine g_bipush (v := (60 : Int32)) C dX11_isSignByte_7 (by decide) ?_
    refine g_icmp_eq (tgt := 24) C dX11_isSignByte_9 (by decide) h (fun h => ?_) (fun h => ?_)
    · refine g_iconst (v := (1 : Int32)) C dX11_isSignByte_24 (by decide) ?_
      refine g_goto (tgt := 29) C dX11_isSignByte_25 (by decide) ?_
      exact g_zret C R dX11_isSignByte_29 (Option.some.inj h) (Or.inr rfl) rfl
    · refine g_iload_n C dX11_isSignByte_12 rfl rfl ?_
      refine g_bipush (v := (62 : Int32)) C dX11_isSignByte_13 (by decide) ?_
      refine g_icmp_eq (tgt := 24) C dX11_isSignByte_15 (by decide) h (fun h => ?_) (fun h => ?_)
      · refine g_iconst (v := (1 : Int32)) C dX11_isSignByte_24 (by decide) ?_
        refine g_goto (tgt := 29) C dX11_isSignByte_25 (by decide) ?_
        exact g_zret C R dX11_isSignByte_29 (Option.some.inj h) (Or.inr rfl) rfl
      · refine g_iload_n C dX11_isSignByte_18 rfl rfl ?_
        refine g_bipush (v := (61 : Int32)) C dX11_isSignByte_19 (by decide) ?_
        refine g_icmp_ne (tgt := 28) C dX11_isSignByte_21 (by decide) h (fun h => ?_) (fun h => ?_)
        · refine g_iconst (v := (0 : Int32)) C dX11_isSignByte_28 (by decide) ?_
          exact g_zret C R dX11_isSignByte_29 (Option.some.inj h) (Or.inl rfl) rfl
        · refine g_iconst (v := (1 : Int32)) C dX11_isSignByte_24 (by decide) ?_
          refine g_goto (tgt := 29) C dX11_isSignByte_25 (by decide) ?_
          exact g_zret C R dX11_isSignByte_29 (Option.some.inj h) (Or.inr rfl) rfl
noncomputable def f_X11_next_210 : Nat → Mem → Option Mem
  | 0, _ => none
  | n + 1, M =>
  (f_X11_look2 (M.1 50 0 16) M).bind fun r12 =>
  (f_X11_isDigit r12).bind fun r13 =>
  if r13 = 0 then
    if (4 : Int32) < ((M.1 50 0 16) - (M.1 50 0 15)) then
      let M15 := sR M 50 0 (upd (M.1 50 0) 14 (4 : Int32))
      some M15
    else
      let M14 := sR M 50 0 (upd (M.1 50 0) 14 (2 : Int32))
      some M14
  else
    if ((M.1 50 0 16) - (M.1 50 0 15)) < (4 : Int32) then
      (f_X11_look2 (M.1 50 0 16) M).bind fun r17 =>
      let M18 := sR M 50 0 (upd (M.1 50 0) 17 ((((10 : Int32) * (M.1 50 0 17)) + r17) - (48 : Int32)))
      let M19 := sR M18 50 0 (upd (M18.1 50 0) 16 ((M18.1 50 0 16) + (1 : Int32)))
      f_X11_next_210 n M19
    else
      let M16 := sR M 50 0 (upd (M.1 50 0) 16 ((M.1 50 0 16) + (1 : Int32)))
      f_X11_next_210 n M16
noncomputable def f_X11_next_109 : Nat → Mem → Option Mem
  | 0, _ => none
  | n + 1, M =>
  (f_X11_look2 (M.1 50 0 16) M).bind fun r22 =>
  (f_X11_isLetter r22).bind fun r23 =>
  if r23 = 0 then
    let M24 := sR M 50 0 (upd (M.1 50 0) 18 ((M.1 50 0 16) - (M.1 50 0 15)))
    some M24
  else
    if ((M.1 50 0 16) - (M.1 50 0 15)) < (8 : Int32) then
      (f_X11_look2 (M.1 50 0 16) M).bind fun r27 =>
      let M28 := sL M 50 0 (vp_updL (M.2 50 0) 19 ((((M.2 50 0 19) * (32 : Int64)) + r27.toInt64) - (96 : Int64)))
      let M29 := sR M28 50 0 (upd (M28.1 50 0) 16 ((M28.1 50 0 16) + (1 : Int32)))
      f_X11_next_109 n M29
    else
      let M25 := sL M 50 0 (vp_updL (M.2 50 0) 19 (-1 : Int64))
      let M26 := sR M25 50 0 (upd (M25.1 50 0) 16 ((M25.1 50 0 16) + (1 : Int32)))
      f_X11_next_109 n M26
noncomputable def f_X11_next_58 (M : Mem) : Option Mem :=
  let M2 := sR M 50 0 (upd (M.1 50 0) 16 (M.1 50 0 15))
  if (M2.1 50 0 15) < (M2.1 50 0 9) then
    (f_X11_look2 (M2.1 50 0 15) M2).bind fun r3 =>
    (f_X11_isLetter r3).bind fun r4 =>
    if r4 = 0 then
      (f_X11_isDigit r3).bind fun r5 =>
      if r5 = 0 then
        let M6 := sR M2 50 0 (upd (M2.1 50 0) 16 ((M2.1 50 0 15) + (1 : Int32)))
        let M7 := sR M6 50 0 (upd (M6.1 50 0) 17 r3)
        (f_X11_isSignByte r3).bind fun r8 =>
        if r8 = 0 then
          let M9 := sR M7 50 0 (upd (M7.1 50 0) 14 (4 : Int32))
          some M9
        else
          let M10 := sR M7 50 0 (upd (M7.1 50 0) 14 (3 : Int32))
          some M10
      else
        let M11 := sR M2 50 0 (upd (M2.1 50 0) 17 (0 : Int32))
        f_X11_next_210 FU M11
    else
      let M20 := sR M2 50 0 (upd (M2.1 50 0) 14 (1 : Int32))
      let M21 := sL M20 50 0 (vp_updL (M20.2 50 0) 19 (0 : Int64))
      f_X11_next_109 FU M21
  else
    let M30 := sR M2 50 0 (upd (M2.1 50 0) 14 (0 : Int32))
    some M30
noncomputable def f_X11_next_8 : Nat → Mem → Option Mem
  | 0, _ => none
  | n + 1, M =>
  if (M.1 50 0 15) < (M.1 50 0 9) then
    (f_X11_look2 (M.1 50 0 15) M).bind fun r31 =>
    if r31 = (10 : Int32) then
      let M32 := sR M 50 0 (upd (M.1 50 0) 15 ((M.1 50 0 15) + (1 : Int32)))
      f_X11_next_8 n M32
    else
      (f_X11_look2 (M.1 50 0 15) M).bind fun r33 =>
      if r33 = (32 : Int32) then
        let M34 := sR M 50 0 (upd (M.1 50 0) 15 ((M.1 50 0 15) + (1 : Int32)))
        f_X11_next_8 n M34
      else
        f_X11_next_58 M
  else
    f_X11_next_58 M
noncomputable def f_X11_next (M : Mem) : Option Mem :=
  let M1 := sR M 50 0 (upd (M.1 50 0) 15 (M.1 50 0 16))
  f_X11_next_8 FU M1
set_option maxRecDepth 20000 in
set_option maxHeartbeats 2000000 in
theorem b_X11_next_210 {E : wEnv} {Y : YT} (C : Cx E Y cX11_next 2 RX11 1) {q : Mem} (R : Rx E Y none none q) (n : Nat) : ∀ {M : Mem} (_ : f_X11_next_210 n M = some q), G E Y 2 M 210 [(0, .ref (ad E 50 0))] [] := by
  induction n with
  | zero =>
    intro M h
    cases (show none = some q from h)
  | succ n ih =>
    intro M h
    rw [f_X11_next_210] at h
    refine g_aload_n C dX11_next_210 rfl rfl ?_
    refine g_aload_n C dX11_next_211 rfl rfl ?_
    refine get_X11_117 C dX11_next_212 (by decide) ?_
    obtain ⟨r12, hr12, h⟩ := Option.bind_eq_some_iff.mp h
    refine call_X11_123 C dX11_next_215 (by decide) (c_X11_look2 E hr12) (by decide) rfl ?_
    obtain ⟨r13, hr13, h⟩ := Option.bind_eq_some_iff.mp h
    refine call_X11_142 C dX11_next_218 (c_X11_isDigit E hr13) (by decide) rfl ?_
    refine g_if_eq (tgt := 273) C dX11_next_221 (by decide) h (fun h => ?_) (fun h => ?_)
    · refine g_aload_n C dX11_next_273 rfl rfl ?_
      refine g_aload_n C dX11_next_274 rfl rfl ?_
      refine get_X11_117 C dX11_next_275 (by decide) ?_
      refine g_aload_n C dX11_next_278 rfl rfl ?_
      refine get_X11_120 C dX11_next_279 (by decide) ?_
      refine g_isub C dX11_next_282 ?_
      refine g_iconst (v := (4 : Int32)) C dX11_next_283 (by decide) ?_
      refine g_icmp_le (tgt := 291) C dX11_next_284 (by decide) h (fun h => ?_) (fun h => ?_)
      · refine g_iconst (v := (2 : Int32)) C dX11_next_291 (by decide) ?_
        refine put_X11_126 C dX11_next_292 (by decide) ?_
        refine g_goto (tgt := 330) C dX11_next_295 (by decide) ?_
        exact g_vret C R dX11_next_330 (Option.some.inj h)
      · refine g_iconst (v := (4 : Int32)) C dX11_next_287 (by decide) ?_
        refine g_goto (tgt := 292) C dX11_next_288 (by decide) ?_
        refine put_X11_126 C dX11_next_292 (by decide) ?_
        refine g_goto (tgt := 330) C dX11_next_295 (by decide) ?_
        exact g_vret C R dX11_next_330 (Option.some.inj h)
    · refine g_aload_n C dX11_next_224 rfl rfl ?_
      refine get_X11_117 C dX11_next_225 (by decide) ?_
      refine g_aload_n C dX11_next_228 rfl rfl ?_
      refine get_X11_120 C dX11_next_229 (by decide) ?_
      refine g_isub C dX11_next_232 ?_
      refine g_iconst (v := (4 : Int32)) C dX11_next_233 (by decide) ?_
      refine g_icmp_ge (tgt := 260) C dX11_next_234 (by decide) h (fun h => ?_) (fun h => ?_)
      · refine g_aload_n C dX11_next_260 rfl rfl ?_
        refine g_dup C dX11_next_261 rfl ?_
        refine get_X11_117 C dX11_next_262 (by decide) ?_
        refine g_iconst (v := (1 : Int32)) C dX11_next_265 (by decide) ?_
        refine g_iadd C dX11_next_266 ?_
        refine put_X11_117 C dX11_next_267 (by decide) ?_
        refine g_goto (tgt := 210) C dX11_next_270 (by decide) ?_
        exact g_sub (ih h) ⟨rfl, trivial⟩
      · refine g_aload_n C dX11_next_237 rfl rfl ?_
        refine g_bipush (v := (10 : Int32)) C dX11_next_238 (by decide) ?_
        refine g_aload_n C dX11_next_240 rfl rfl ?_
        refine get_X11_145 C dX11_next_241 (by decide) ?_
        refine g_imul C dX11_next_244 ?_
        refine g_aload_n C dX11_next_245 rfl rfl ?_
        refine g_aload_n C dX11_next_246 rfl rfl ?_
        refine get_X11_117 C dX11_next_247 (by decide) ?_
        obtain ⟨r17, hr17, h⟩ := Option.bind_eq_some_iff.mp h
        refine call_X11_123 C dX11_next_250 (by decide) (c_X11_look2 E hr17) (by decide) rfl ?_
        refine g_iadd C dX11_next_253 ?_
        refine g_bipush (v := (48 : Int32)) C dX11_next_254 (by decide) ?_
        refine g_isub C dX11_next_256 ?_
        refine put_X11_145 C dX11_next_257 (by decide) ?_
        refine g_aload_n C dX11_next_260 rfl rfl ?_
        refine g_dup C dX11_next_261 rfl ?_
        refine get_X11_117 C dX11_next_262 (by decide) ?_
        refine g_iconst (v := (1 : Int32)) C dX11_next_265 (by decide) ?_
        refine g_iadd C dX11_next_266 ?_
        refine put_X11_117 C dX11_next_267 (by decide) ?_
        refine g_goto (tgt := 210) C dX11_next_270 (by decide) ?_
        exact g_sub (ih h) ⟨rfl, trivial⟩
set_option maxRecDepth 20000 in
set_option maxHeartbeats 2000000 in
theorem b_X11_next_109 {E : wEnv} {Y : YT} (C : Cx E Y cX11_next 2 RX11 1) {q : Mem} (R : Rx E Y none none q) (n : Nat) : ∀ {M : Mem} (_ : f_X11_next_109 n M = some q), G E Y 2 M 109 [(0, .ref (ad E 50 0))] [] := by
  induction n with
  | zero =>
    intro M h
    cases (show none = some q from h)
  | succ n ih =>
    intro M h
    rw [f_X11_next_109] at h
    refine g_aload_n C dX11_next_109 rfl rfl ?_
    refine g_aload_n C dX11_next_110 rfl rfl ?_
    refine get_X11_117 C dX11_next_111 (by decide) ?_
    obtain ⟨r22, hr22, h⟩ := Option.bind_eq_some_iff.mp h
    refine call_X11_123 C dX11_next_114 (by decide) (c_X11_look2 E hr22) (by decide) rfl ?_
    obtain ⟨r23, hr23, h⟩ := Option.bind_eq_some_iff.mp h
    refine call_X11_129 C dX11_next_117 (c_X11_isLetter E hr23) (by decide) rfl ?_
    refine g_if_eq (tgt := 182) C dX11_next_120 (by decide) h (fun h => ?_) (fun h => ?_)
    · refine g_aload_n C dX11_next_182 rfl rfl ?_
      refine g_aload_n C dX11_next_183 rfl rfl ?_
      refine get_X11_117 C dX11_next_184 (by decide) ?_
      refine g_aload_n C dX11_next_187 rfl rfl ?_
      refine get_X11_120 C dX11_next_188 (by decide) ?_
      refine g_isub C dX11_next_191 ?_
      refine put_X11_139 C dX11_next_192 (by decide) ?_
      refine g_goto (tgt := 330) C dX11_next_195 (by decide) ?_
      exact g_vret C R dX11_next_330 (Option.some.inj h)
    · refine g_aload_n C dX11_next_123 rfl rfl ?_
      refine g_aload_n C dX11_next_124 rfl rfl ?_
      refine get_X11_117 C dX11_next_125 (by decide) ?_
      refine g_aload_n C dX11_next_128 rfl rfl ?_
      refine get_X11_120 C dX11_next_129 (by decide) ?_
      refine g_isub C dX11_next_132 ?_
      refine g_bipush (v := (8 : Int32)) C dX11_next_133 (by decide) ?_
      refine g_icmp_ge (tgt := 163) C dX11_next_135 (by decide) h (fun h => ?_) (fun h => ?_)
      · refine g_ldc2 C dX11_next_163 qc_X11_102 ?_
        refine put_X11_132 C dX11_next_166 (by decide) ?_
        refine g_aload_n C dX11_next_169 rfl rfl ?_
        refine g_dup C dX11_next_170 rfl ?_
        refine get_X11_117 C dX11_next_171 (by decide) ?_
        refine g_iconst (v := (1 : Int32)) C dX11_next_174 (by decide) ?_
        refine g_iadd C dX11_next_175 ?_
        refine put_X11_117 C dX11_next_176 (by decide) ?_
        refine g_goto (tgt := 109) C dX11_next_179 (by decide) ?_
        exact g_sub (ih h) ⟨rfl, trivial⟩
      · refine g_aload_n C dX11_next_138 rfl rfl ?_
        refine get_X11_132 C dX11_next_139 (by decide) ?_
        refine g_ldc2 C dX11_next_142 qc_X11_135 ?_
        refine g_lmul C dX11_next_145 ?_
        refine g_aload_n C dX11_next_146 rfl rfl ?_
        refine g_aload_n C dX11_next_147 rfl rfl ?_
        refine get_X11_117 C dX11_next_148 (by decide) ?_
        obtain ⟨r27, hr27, h⟩ := Option.bind_eq_some_iff.mp h
        refine call_X11_123 C dX11_next_151 (by decide) (c_X11_look2 E hr27) (by decide) rfl ?_
        refine g_i2l C dX11_next_154 ?_
        refine g_ladd C dX11_next_155 ?_
        refine g_ldc2 C dX11_next_156 qc_X11_137 ?_
        refine g_lsub C dX11_next_159 ?_
        refine g_goto (tgt := 166) C dX11_next_160 (by decide) ?_
        refine put_X11_132 C dX11_next_166 (by decide) ?_
        refine g_aload_n C dX11_next_169 rfl rfl ?_
        refine g_dup C dX11_next_170 rfl ?_
        refine get_X11_117 C dX11_next_171 (by decide) ?_
        refine g_iconst (v := (1 : Int32)) C dX11_next_174 (by decide) ?_
        refine g_iadd C dX11_next_175 ?_
        refine put_X11_117 C dX11_next_176 (by decide) ?_
        refine g_goto (tgt := 109) C dX11_next_179 (by decide) ?_
        exact g_sub (ih h) ⟨rfl, trivial⟩
set_option maxRecDepth 20000 in
set_option maxHeartbeats 2000000 in
theorem b_X11_next_58 {E : wEnv} {Y : YT} (C : Cx E Y cX11_next 2 RX11 1) {q : Mem} (R : Rx E Y none none q) {M : Mem} (h : f_X11_next_58 M = some q) : G E Y 2 M 58 [(0, .ref (ad E 50 0))] [] := by
  unfold f_X11_next_58 at h
  refine g_aload_n C dX11_next_58 rfl rfl ?_
  refine g_aload_n C dX11_next_59 rfl rfl ?_
  refine get_X11_120 C dX11_next_60 (by decide) ?_
  refine put_X11_117 C dX11_next_63 (by decide) ?_
  refine g_aload_n C dX11_next_66 rfl rfl ?_
  refine get_X11_120 C dX11_next_67 (by decide) ?_
  refine g_aload_n C dX11_next_70 rfl rfl ?_
  refine get_X11_114 C dX11_next_71 (by decide) ?_
  refine g_icmp_lt (tgt := 83) C dX11_next_74 (by decide) h (fun h => ?_) (fun h => ?_)
  · refine g_aload_n C dX11_next_83 rfl rfl ?_
    refine g_aload_n C dX11_next_84 rfl rfl ?_
    refine get_X11_120 C dX11_next_85 (by decide) ?_
    obtain ⟨r3, hr3, h⟩ := Option.bind_eq_some_iff.mp h
    refine call_X11_123 C dX11_next_88 (by decide) (c_X11_look2 E hr3) (by decide) rfl ?_
    refine g_istore_n C dX11_next_91 rfl rfl ?_
    refine g_iload_n C dX11_next_92 rfl rfl ?_
    obtain ⟨r4, hr4, h⟩ := Option.bind_eq_some_iff.mp h
    refine call_X11_129 C dX11_next_93 (c_X11_isLetter E hr4) (by decide) rfl ?_
    refine g_if_eq (tgt := 198) C dX11_next_96 (by decide) h (fun h => ?_) (fun h => ?_)
    · refine g_iload_n C dX11_next_198 rfl rfl ?_
      obtain ⟨r5, hr5, h⟩ := Option.bind_eq_some_iff.mp h
      refine call_X11_142 C dX11_next_199 (c_X11_isDigit E hr5) (by decide) rfl ?_
      refine g_if_eq (tgt := 298) C dX11_next_202 (by decide) h (fun h => ?_) (fun h => ?_)
      · refine g_aload_n C dX11_next_298 rfl rfl ?_
        refine g_aload_n C dX11_next_299 rfl rfl ?_
        refine get_X11_120 C dX11_next_300 (by decide) ?_
        refine g_iconst (v := (1 : Int32)) C dX11_next_303 (by decide) ?_
        refine g_iadd C dX11_next_304 ?_
        refine put_X11_117 C dX11_next_305 (by decide) ?_
        refine g_aload_n C dX11_next_308 rfl rfl ?_
        refine g_iload_n C dX11_next_309 rfl rfl ?_
        refine put_X11_145 C dX11_next_310 (by decide) ?_
        refine g_aload_n C dX11_next_313 rfl rfl ?_
        refine g_aload_n C dX11_next_314 rfl rfl ?_
        refine g_iload_n C dX11_next_315 rfl rfl ?_
        obtain ⟨r8, hr8, h⟩ := Option.bind_eq_some_iff.mp h
        refine call_X11_148 C dX11_next_316 (by decide) (c_X11_isSignByte E hr8) (by decide) rfl ?_
        refine g_if_eq (tgt := 326) C dX11_next_319 (by decide) h (fun h => ?_) (fun h => ?_)
        · refine g_iconst (v := (4 : Int32)) C dX11_next_326 (by decide) ?_
          refine put_X11_126 C dX11_next_327 (by decide) ?_
          exact g_vret C R dX11_next_330 (Option.some.inj h)
        · refine g_iconst (v := (3 : Int32)) C dX11_next_322 (by decide) ?_
          refine g_goto (tgt := 327) C dX11_next_323 (by decide) ?_
          refine put_X11_126 C dX11_next_327 (by decide) ?_
          exact g_vret C R dX11_next_330 (Option.some.inj h)
      · refine g_aload_n C dX11_next_205 rfl rfl ?_
        refine g_iconst (v := (0 : Int32)) C dX11_next_206 (by decide) ?_
        refine put_X11_145 C dX11_next_207 (by decide) ?_
        exact g_sub (b_X11_next_210 C R _ h) ⟨rfl, trivial⟩
    · refine g_aload_n C dX11_next_99 rfl rfl ?_
      refine g_iconst (v := (1 : Int32)) C dX11_next_100 (by decide) ?_
      refine put_X11_126 C dX11_next_101 (by decide) ?_
      refine g_aload_n C dX11_next_104 rfl rfl ?_
      refine g_lconst (v := (0 : Int64)) C dX11_next_105 (by decide) ?_
      refine put_X11_132 C dX11_next_106 (by decide) ?_
      exact g_sub (b_X11_next_109 C R _ h) ⟨rfl, trivial⟩
  · refine g_aload_n C dX11_next_77 rfl rfl ?_
    refine g_iconst (v := (0 : Int32)) C dX11_next_78 (by decide) ?_
    refine put_X11_126 C dX11_next_79 (by decide) ?_
    exact g_vret C R dX11_next_82 (Option.some.inj h)
set_option maxRecDepth 20000 in
set_option maxHeartbeats 2000000 in
theorem b_X11_next_8 {E : wEnv} {Y : YT} (C : Cx E Y cX11_next 2 RX11 1) {q : Mem} (R : Rx E Y none none q) (n : Nat) : ∀ {M : Mem} (_ : f_X11_next_8 n M = some q), G E Y 2 M 8 [(0, .ref (ad E 50 0))] [] := by
  induction n with
  | zero =>
    intro M h
    cases (show none = some q from h)
  | succ n ih =>
    intro M h
    rw [f_X11_next_8] at h
    refine g_aload_n C dX11_next_8 rfl rfl ?_
    refine get_X11_120 C dX11_next_9 (by decide) ?_
    refine g_aload_n C dX11_next_12 rfl rfl ?_
    refine get_X11_114 C dX11_next_13 (by decide) ?_
    refine g_icmp_ge (tgt := 58) C dX11_next_16 (by decide) h (fun h => ?_) (fun h => ?_)
    · exact g_sub (b_X11_next_58 C R h) ⟨rfl, trivial⟩
    · refine g_aload_n C dX11_next_19 rfl rfl ?_
      refine g_aload_n C dX11_next_20 rfl rfl ?_
      refine get_X11_120 C dX11_next_21 (by decide) ?_
      obtain ⟨r31, hr31, h⟩ := Option.bind_eq_some_iff.mp h
      refine call_X11_123 C dX11_next_24 (by decide) (c_X11_look2 E hr31) (by decide) rfl ?_
      refine g_bipush (v := (10 : Int32)) C dX11_next_27 (by decide) ?_
      refine g_icmp_eq (tgt := 45) C dX11_next_29 (by decide) h (fun h => ?_) (fun h => ?_)
      · refine g_aload_n C dX11_next_45 rfl rfl ?_
        refine g_dup C dX11_next_46 rfl ?_
        refine get_X11_120 C dX11_next_47 (by decide) ?_
        refine g_iconst (v := (1 : Int32)) C dX11_next_50 (by decide) ?_
        refine g_iadd C dX11_next_51 ?_
        refine put_X11_120 C dX11_next_52 (by decide) ?_
        refine g_goto (tgt := 8) C dX11_next_55 (by decide) ?_
        exact g_sub (ih h) ⟨rfl, trivial⟩
      · refine g_aload_n C dX11_next_32 rfl rfl ?_
        refine g_aload_n C dX11_next_33 rfl rfl ?_
        refine get_X11_120 C dX11_next_34 (by decide) ?_
        obtain ⟨r33, hr33, h⟩ := Option.bind_eq_some_iff.mp h
        refine call_X11_123 C dX11_next_37 (by decide) (c_X11_look2 E hr33) (by decide) rfl ?_
        refine g_bipush (v := (32 : Int32)) C dX11_next_40 (by decide) ?_
        refine g_icmp_ne (tgt := 58) C dX11_next_42 (by decide) h (fun h => ?_) (fun h => ?_)
        · exact g_sub (b_X11_next_58 C R h) ⟨rfl, trivial⟩
        · refine g_aload_n C dX11_next_45 rfl rfl ?_
          refine g_dup C dX11_next_46 rfl ?_
          refine get_X11_120 C dX11_next_47 (by decide) ?_
          refine g_iconst (v := (1 : Int32)) C dX11_next_50 (by decide) ?_
          refine g_iadd C dX11_next_51 ?_
          refine put_X11_120 C dX11_next_52 (by decide) ?_
          refine g_goto (tgt := 8) C dX11_next_55 (by decide) ?_
          exact g_sub (ih h) ⟨rfl, trivial⟩
set_option maxRecDepth 20000 in
set_option maxHeartbeats 2000000 in
theorem c_X11_next (E : wEnv) {M : Mem} {q : Mem} (h : f_X11_next M = some q) : Mt E yX11_next cX11_next 2 none 1 [.ref (ad E 50 0)] M none q := by
  unfold f_X11_next at h
  refine mt_intro (own := RX11) (lv0 := [(0, .ref (ad E 50 0))]) (by decide) rfl rfl rfl (fun Y C R => ?_)
  refine g_aload_n C dX11_next_0 rfl rfl ?_
  refine g_aload_n C dX11_next_1 rfl rfl ?_
  refine get_X11_117 C dX11_next_2 (by decide) ?_
  refine put_X11_120 C dX11_next_5 (by decide) ?_
  exact g_sub (b_X11_next_8 C R _ h) ⟨rfl, trivial⟩
noncomputable def f_X11_isSign (x1 : Int32) (M : Mem) : Option Int32 :=
  if (M.1 50 0 14) = (3 : Int32) then
    if (M.1 50 0 17) = x1 then
      some (1 : Int32)
    else
      some (0 : Int32)
  else
    some (0 : Int32)
set_option maxRecDepth 20000 in
set_option maxHeartbeats 2000000 in
theorem c_X11_isSign (E : wEnv) {x1 : Int32} {M : Mem} {q : Int32} (h : f_X11_isSign x1 M = some q) : Mt E yX11_isSign cX11_isSign 2 (some .boolean) 0 [.ref (ad E 50 0), .int x1] M (some (.int q)) M := by
  unfold f_X11_isSign at h
  refine mt_intro (own := RX11) (lv0 := [(0, .ref (ad E 50 0)), (1, .int x1)]) (by decide) rfl rfl rfl (fun Y C R => ?_)
  refine g_aload_n C dX11_isSign_0 rfl rfl ?_
  refine get_X11_126 C dX11_isSign_1 (by decide) ?_
  refine g_iconst (v := (3 : Int32)) C dX11_isSign_4 (by decide) ?_
  refine g_icmp_ne (tgt := 20) C dX11_isSign_5 (by decide) h (fun h => ?_) (fun h => ?_)
  · refine g_iconst (v := (0 : Int32)) C dX11_isSign_20 (by decide) ?_
    exact g_zret C R dX11_isSign_21 (Option.some.inj h) (Or.inl rfl) rfl
  · refine g_aload_n C dX11_isSign_8 rfl rfl ?_
    refine get_X11_145 C dX11_isSign_9 (by decide) ?_
    refine g_iload_n C dX11_isSign_12 rfl rfl ?_
    refine g_icmp_ne (tgt := 20) C dX11_isSign_13 (by decide) h (fun h => ?_) (fun h => ?_)
    · refine g_iconst (v := (0 : Int32)) C dX11_isSign_20 (by decide) ?_
      exact g_zret C R dX11_isSign_21 (Option.some.inj h) (Or.inl rfl) rfl
    · refine g_iconst (v := (1 : Int32)) C dX11_isSign_16 (by decide) ?_
      refine g_goto (tgt := 21) C dX11_isSign_17 (by decide) ?_
      exact g_zret C R dX11_isSign_21 (Option.some.inj h) (Or.inr rfl) rfl
noncomputable def f_X11_spelled_65 (x4 : Int32) (x5 : Int32) (ps0 : Int64) : Option Int64 :=
  if 0 < x4 then
    let l6_2 := (((ps0 * (32 : Int64)) + x4.toInt64) - (96 : Int64))
    if 0 < x5 then
      some (((l6_2 * (32 : Int64)) + x5.toInt64) - (96 : Int64))
    else
      some l6_2
  else
    if 0 < x5 then
      some (((ps0 * (32 : Int64)) + x5.toInt64) - (96 : Int64))
    else
      some ps0
noncomputable def f_X11_spelled_41 (x3 : Int32) (x4 : Int32) (x5 : Int32) (ps0 : Int64) : Option Int64 :=
  if 0 < x3 then
    f_X11_spelled_65 x4 x5 (((ps0 * (32 : Int64)) + x3.toInt64) - (96 : Int64))
  else
    f_X11_spelled_65 x4 x5 ps0
noncomputable def f_X11_spelled (x0 : Int32) (x1 : Int32) (x2 : Int32) (x3 : Int32) (x4 : Int32) (x5 : Int32) : Option Int64 :=
  let l6_1 := ((((x0.toInt64 - (96 : Int64)) * (32 : Int64)) + x1.toInt64) - (96 : Int64))
  if 0 < x2 then
    f_X11_spelled_41 x3 x4 x5 (((l6_1 * (32 : Int64)) + x2.toInt64) - (96 : Int64))
  else
    f_X11_spelled_41 x3 x4 x5 l6_1
set_option maxRecDepth 20000 in
set_option maxHeartbeats 2000000 in
theorem b_X11_spelled_65 {E : wEnv} {Y : YT} (C : Cx E Y cX11_spelled 8 RX11 0) {q : Int64} {M : Mem} (R : Rx E Y (some .long) (some (.long q)) M) {x4 : Int32} {x5 : Int32} {ps0 : Int64} (h : f_X11_spelled_65 x4 x5 ps0 = some q) : G E Y 8 M 65 [(4, .int x4), (5, .int x5)] [.long ps0] := by
  unfold f_X11_spelled_65 at h
  refine g_lstore C dX11_spelled_65 rfl ?_
  refine g_iload C dX11_spelled_67 rfl ?_
  refine g_if_le (tgt := 89) C dX11_spelled_69 (by decide) h (fun h => ?_) (fun h => ?_)
  · refine g_lload C dX11_spelled_89 rfl ?_
    refine g_lstore C dX11_spelled_91 rfl ?_
    refine g_iload C dX11_spelled_93 rfl ?_
    refine g_if_le (tgt := 115) C dX11_spelled_95 (by decide) h (fun h => ?_) (fun h => ?_)
    · refine g_lload C dX11_spelled_115 rfl ?_
      exact g_lret C R dX11_spelled_117 (Option.some.inj h) rfl
    · refine g_lload C dX11_spelled_98 rfl ?_
      refine g_ldc2 C dX11_spelled_100 qc_X11_135 ?_
      refine g_lmul C dX11_spelled_103 ?_
      refine g_iload C dX11_spelled_104 rfl ?_
      refine g_i2l C dX11_spelled_106 ?_
      refine g_ladd C dX11_spelled_107 ?_
      refine g_ldc2 C dX11_spelled_108 qc_X11_137 ?_
      refine g_lsub C dX11_spelled_111 ?_
      refine g_goto (tgt := 117) C dX11_spelled_112 (by decide) ?_
      exact g_lret C R dX11_spelled_117 (Option.some.inj h) rfl
  · refine g_lload C dX11_spelled_72 rfl ?_
    refine g_ldc2 C dX11_spelled_74 qc_X11_135 ?_
    refine g_lmul C dX11_spelled_77 ?_
    refine g_iload C dX11_spelled_78 rfl ?_
    refine g_i2l C dX11_spelled_80 ?_
    refine g_ladd C dX11_spelled_81 ?_
    refine g_ldc2 C dX11_spelled_82 qc_X11_137 ?_
    refine g_lsub C dX11_spelled_85 ?_
    refine g_goto (tgt := 91) C dX11_spelled_86 (by decide) ?_
    refine g_lstore C dX11_spelled_91 rfl ?_
    refine g_iload C dX11_spelled_93 rfl ?_
    refine g_if_le (tgt := 115) C dX11_spelled_95 (by decide) h (fun h => ?_) (fun h => ?_)
    · refine g_lload C dX11_spelled_115 rfl ?_
      exact g_lret C R dX11_spelled_117 (Option.some.inj h) rfl
    · refine g_lload C dX11_spelled_98 rfl ?_
      refine g_ldc2 C dX11_spelled_100 qc_X11_135 ?_
      refine g_lmul C dX11_spelled_103 ?_
      refine g_iload C dX11_spelled_104 rfl ?_
      refine g_i2l C dX11_spelled_106 ?_
      refine g_ladd C dX11_spelled_107 ?_
      refine g_ldc2 C dX11_spelled_108 qc_X11_137 ?_
      refine g_lsub C dX11_spelled_111 ?_
      refine g_goto (tgt := 117) C dX11_spelled_112 (by decide) ?_
      exact g_lret C R dX11_spelled_117 (Option.some.inj h) rfl
set_option maxRecDepth 20000 in
set_option maxHeartbeats 2000000 in
theorem b_X11_spelled_41 {E : wEnv} {Y : YT} (C : Cx E Y cX11_spelled 8 RX11 0) {q : Int64} {M : Mem} (R : Rx E Y (some .long) (some (.long q)) M) {x3 : Int32} {x4 : Int32} {x5 : Int32} {ps0 : Int64} (h : f_X11_spelled_41 x3 x4 x5 ps0 = some q) : G E Y 8 M 41 [(3, .int x3), (4, .int x4), (5, .int x5)] [.long ps0] := by
  unfold f_X11_spelled_41 at h
  refine g_lstore C dX11_spelled_41 rfl ?_
  refine g_iload_n C dX11_spelled_43 rfl rfl ?_
  refine g_if_le (tgt := 63) C dX11_spelled_44 (by decide) h (fun h => ?_) (fun h => ?_)
  · refine g_lload C dX11_spelled_63 rfl ?_
    exact g_sub (b_X11_spelled_65 C R h) ⟨rfl, rfl, trivial⟩
  · refine g_lload C dX11_spelled_47 rfl ?_
    refine g_ldc2 C dX11_spelled_49 qc_X11_135 ?_
    refine g_lmul C dX11_spelled_52 ?_
    refine g_iload_n C dX11_spelled_53 rfl rfl ?_
    refine g_i2l C dX11_spelled_54 ?_
    refine g_ladd C dX11_spelled_55 ?_
    refine g_ldc2 C dX11_spelled_56 qc_X11_137 ?_
    refine g_lsub C dX11_spelled_59 ?_
    refine g_goto (tgt := 65) C dX11_spelled_60 (by decide) ?_
    exact g_sub (b_X11_spelled_65 C R h) ⟨rfl, rfl, trivial⟩
set_option maxRecDepth 20000 in
set_option maxHeartbeats 2000000 in
theorem c_X11_spelled (E : wEnv) {x0 : Int32} {x1 : Int32} {x2 : Int32} {x3 : Int32} {x4 : Int32} {x5 : Int32} {M : Mem} {q : Int64} (h : f_X11_spelled x0 x1 x2 x3 x4 x5 = some q) : Mt E yX11_spelled cX11_spelled 8 (some .long) 0 [.int x0, .int x1, .int x2, .int x3, .int x4, .int x5] M (some (.long q)) M := by
  unfold f_X11_spelled at h
  refine mt_intro (own := RX11) (lv0 := [(0, .int x0), (1, .int x1), (2, .int x2), (3, .int x3), (4, .int x4), (5, .int x5)]) (by decide) rfl rfl rfl (fun Y C R => ?_)
  refine g_iload_n C dX11_spelled_0 rfl rfl ?_
  refine g_i2l C dX11_spelled_1 ?_
  refine g_ldc2 C dX11_spelled_2 qc_X11_137 ?_
  refine g_lsub C dX11_spelled_5 ?_
  refine g_ldc2 C dX11_spelled_6 qc_X11_135 ?_
  refine g_lmul C dX11_spelled_9 ?_
  refine g_iload_n C dX11_spelled_10 rfl rfl ?_
  refine g_i2l C dX11_spelled_11 ?_
  refine g_ladd C dX11_spelled_12 ?_
  refine g_ldc2 C dX11_spelled_13 qc_X11_137 ?_
  refine g_lsub C dX11_spelled_16 ?_
  refine g_lstore C dX11_spelled_17 rfl ?_
  refine g_iload_n C dX11_spelled_19 rfl rfl ?_
  refine g_if_le (tgt := 39) C dX11_spelled_20 (by decide) h (fun h => ?_) (fun h => ?_)
  · refine g_lload C dX11_spelled_39 rfl ?_
    exact g_sub (b_X11_spelled_41 C R h) ⟨rfl, rfl, rfl, trivial⟩
  · refine g_lload C dX11_spelled_23 rfl ?_
    refine g_ldc2 C dX11_spelled_25 qc_X11_135 ?_
    refine g_lmul C dX11_spelled_28 ?_
    refine g_iload_n C dX11_spelled_29 rfl rfl ?_
    refine g_i2l C dX11_spelled_30 ?_
    refine g_ladd C dX11_spelled_31 ?_
    refine g_ldc2 C dX11_spelled_32 qc_X11_137 ?_
    refine g_lsub C dX11_spelled_35 ?_
    refine g_goto (tgt := 41) C dX11_spelled_36 (by decide) ?_
    exact g_sub (b_X11_spelled_41 C R h) ⟨rfl, rfl, rfl, trivial⟩
noncomputable def f_X11_isWord (l1 : Int64) (M : Mem) : Option Int32 :=
  if (M.1 50 0 14) = (1 : Int32) then
    if (lg_cmp (M.2 50 0 19) l1) = 0 then
      some (1 : Int32)
    else
      some (0 : Int32)
  else
    some (0 : Int32)
set_option maxRecDepth 20000 in
set_option maxHeartbeats 2000000 in
theorem c_X11_isWord (E : wEnv) {l1 : Int64} {M : Mem} {q : Int32} (h : f_X11_isWord l1 M = some q) : Mt E yX11_isWord cX11_isWord 3 (some .boolean) 0 [.ref (ad E 50 0), .long l1] M (some (.int q)) M := by
  unfold f_X11_isWord at h
  refine mt_intro (own := RX11) (lv0 := [(0, .ref (ad E 50 0)), (1, .long l1)]) (by decide) rfl rfl rfl (fun Y C R => ?_)
  refine g_aload_n C dX11_isWord_0 rfl rfl ?_
  refine get_X11_126 C dX11_isWord_1 (by decide) ?_
  refine g_iconst (v := (1 : Int32)) C dX11_isWord_4 (by decide) ?_
  refine g_icmp_ne (tgt := 21) C dX11_isWord_5 (by decide) h (fun h => ?_) (fun h => ?_)
  · refine g_iconst (v := (0 : Int32)) C dX11_isWord_21 (by decide) ?_
    exact g_zret C R dX11_isWord_22 (Option.some.inj h) (Or.inl rfl) rfl
  · refine g_aload_n C dX11_isWord_8 rfl rfl ?_
    refine get_X11_132 C dX11_isWord_9 (by decide) ?_
    refine g_lload_n C dX11_isWord_12 rfl rfl ?_
    refine g_lcmp C dX11_isWord_13 ?_
    refine g_if_ne (tgt := 21) C dX11_isWord_14 (by decide) h (fun h => ?_) (fun h => ?_)
    · refine g_iconst (v := (0 : Int32)) C dX11_isWord_21 (by decide) ?_
      exact g_zret C R dX11_isWord_22 (Option.some.inj h) (Or.inl rfl) rfl
    · refine g_iconst (v := (1 : Int32)) C dX11_isWord_17 (by decide) ?_
      refine g_goto (tgt := 22) C dX11_isWord_18 (by decide) ?_
      exact g_zret C R dX11_isWord_22 (Option.some.inj h) (Or.inr rfl) rfl
noncomputable def f_X11_isJuror (M : Mem) : Option Int32 :=
  (f_X11_spelled (106 : Int32) (117 : Int32) (114 : Int32) (111 : Int32) (114 : Int32) (0 : Int32)).bind fun r1 =>
  (f_X11_isWord r1 M).bind fun r2 =>
  if isB r2 = true then some r2 else none
set_option maxRecDepth 20000 in
set_option maxHeartbeats 2000000 in
theorem c_X11_isJuror (E : wEnv) {M : Mem} {q : Int32} (h : f_X11_isJuror M = some q) : Mt E yX11_isJuror cX11_isJuror 1 (some .boolean) 1 [.ref (ad E 50 0)] M (some (.int q)) M := by
  unfold f_X11_isJuror at h
  refine mt_intro (own := RX11) (lv0 := [(0, .ref (ad E 50 0))]) (by decide) rfl rfl rfl (fun Y C R => ?_)
  refine g_aload_n C dX11_isJuror_0 rfl rfl ?_
  refine g_bipush (v := (106 : Int32)) C dX11_isJuror_1 (by decide) ?_
  refine g_bipush (v := (117 : Int32)) C dX11_isJuror_3 (by decide) ?_
  refine g_bipush (v := (114 : Int32)) C dX11_isJuror_5 (by decide) ?_
  refine g_bipush (v := (111 : Int32)) C dX11_isJuror_7 (by decide) ?_
  refine g_bipush (v := (114 : Int32)) C dX11_isJuror_9 (by decide) ?_
  refine g_iconst (v := (0 : Int32)) C dX11_isJuror_11 (by decide) ?_
  obtain ⟨r1, hr1, h⟩ := Option.bind_eq_some_iff.mp h
  refine call_X11_151 C dX11_isJuror_12 (c_X11_spelled E hr1) (by decide) rfl ?_
  obtain ⟨r2, hr2, h⟩ := Option.bind_eq_some_iff.mp h
  refine call_X11_155 C dX11_isJuror_15 (by decide) (c_X11_isWord E hr2) (by decide) rfl ?_
  obtain ⟨hz3, h⟩ := of_ite h
  exact g_zret C R dX11_isJuror_18 (Option.some.inj h) (isB_of hz3) rfl
noncomputable def f_X11_isLeans (M : Mem) : Option Int32 :=
  (f_X11_spelled (108 : Int32) (101 : Int32) (97 : Int32) (110 : Int32) (115 : Int32) (0 : Int32)).bind fun r1 =>
  (f_X11_isWord r1 M).bind fun r2 =>
  if isB r2 = true then some r2 else none
set_option maxRecDepth 20000 in
set_option maxHeartbeats 2000000 in
theorem c_X11_isLeans (E : wEnv) {M : Mem} {q : Int32} (h : f_X11_isLeans M = some q) : Mt E yX11_isLeans cX11_isLeans 1 (some .boolean) 1 [.ref (ad E 50 0)] M (some (.int q)) M := by
  unfold f_X11_isLeans at h
  refine mt_intro (own := RX11) (lv0 := [(0, .ref (ad E 50 0))]) (by decide) rfl rfl rfl (fun Y C R => ?_)
  refine g_aload_n C dX11_isLeans_0 rfl rfl ?_
  refine g_bipush (v := (108 : Int32)) C dX11_isLeans_1 (by decide) ?_
  refine g_bipush (v := (101 : Int32)) C dX11_isLeans_3 (by decide) ?_
  refine g_bipush (v := (97 : Int32)) C dX11_isLeans_5 (by decide) ?_
  refine g_bipush (v := (110 : Int32)) C dX11_isLeans_7 (by decide) ?_
  refine g_bipush (v := (115 : Int32)) C dX11_isLeans_9 (by decide) ?_
  refine g_iconst (v := (0 : Int32)) C dX11_isLeans_11 (by decide) ?_
  obtain ⟨r1, hr1, h⟩ := Option.bind_eq_some_iff.mp h
  refine call_X11_151 C dX11_isLeans_12 (c_X11_spelled E hr1) (by decide) rfl ?_
  obtain ⟨r2, hr2, h⟩ := Option.bind_eq_some_iff.mp h
  refine call_X11_155 C dX11_isLeans_15 (by decide) (c_X11_isWord E hr2) (by decide) rfl ?_
  obtain ⟨hz3, h⟩ := of_ite h
  exact g_zret C R dX11_isLeans_18 (Option.some.inj h) (isB_of hz3) rfl
noncomputable def f_X11_isLess (M : Mem) : Option Int32 :=
  (f_X11_spelled (108 : Int32) (101 : Int32) (115 : Int32) (115 : Int32) (0 : Int32) (0 : Int32)).bind fun r1 =>
  (f_X11_isWord r1 M).bind fun r2 =>
  if isB r2 = true then some r2 else none
set_option maxRecDepth 20000 in
set_option maxHeartbeats 2000000 in
theorem c_X11_isLess (E : wEnv) {M : Mem} {q : Int32} (h : f_X11_isLess M = some q) : Mt E yX11_isLess cX11_isLess 1 (some .boolean) 1 [.ref (ad E 50 0)] M (some (.int q)) M := by
  unfold f_X11_isLess at h
  refine mt_intro (own := RX11) (lv0 := [(0, .ref (ad E 50 0))]) (by decide) rfl rfl rfl (fun Y C R => ?_)
  refine g_aload_n C dX11_isLess_0 rfl rfl ?_
  refine g_bipush (v := (108 : Int32)) C dX11_isLess_1 (by decide) ?_
  refine g_bipush (v := (101 : Int32)) C dX11_isLess_3 (by decide) ?_
  refine g_bipush (v := (115 : Int32)) C dX11_isLess_5 (by decide) ?_
  refine g_bipush (v := (115 : Int32)) C dX11_isLess_7 (by decide) ?_
  refine g_iconst (v := (0 : Int32)) C dX11_isLess_9 (by decide) ?_
  refine g_iconst (v := (0 : Int32)) C dX11_isLess_10 (by decide) ?_
  obtain ⟨r1, hr1, h⟩ := Option.bind_eq_some_iff.mp h
  refine call_X11_151 C dX11_isLess_11 (c_X11_spelled E hr1) (by decide) rfl ?_
  obtain ⟨r2, hr2, h⟩ := Option.bind_eq_some_iff.mp h
  refine call_X11_155 C dX11_isLess_14 (by decide) (c_X11_isWord E hr2) (by decide) rfl ?_
  obtain ⟨hz3, h⟩ := of_ite h
  exact g_zret C R dX11_isLess_17 (Option.some.inj h) (isB_of hz3) rfl
noncomputable def f_X11_isStubborn (M : Mem) : Option Int32 :=
  (f_X11_spelled (115 : Int32) (116 : Int32) (117 : Int32) (98 : Int32) (98 : Int32) (111 : Int32)).bind fun r1 =>
  (f_X11_isWord ((((r1 * (32 : Int64)) + (18 : Int64)) * (32 : Int64)) + (14 : Int64)) M).bind fun r2 =>
  if isB r2 = true then some r2 else none
set_option maxRecDepth 20000 in
set_option maxHeartbeats 2000000 in
theorem c_X11_isStubborn (E : wEnv) {M : Mem} {q : Int32} (h : f_X11_isStubborn M = some q) : Mt E yX11_isStubborn cX11_isStubborn 1 (some .boolean) 1 [.ref (ad E 50 0)] M (some (.int q)) M := by
  unfold f_X11_isStubborn at h
  refine mt_intro (own := RX11) (lv0 := [(0, .ref (ad E 50 0))]) (by decide) rfl rfl rfl (fun Y C R => ?_)
  refine g_aload_n C dX11_isStubborn_0 rfl rfl ?_
  refine g_bipush (v := (115 : Int32)) C dX11_isStubborn_1 (by decide) ?_
  refine g_bipush (v := (116 : Int32)) C dX11_isStubborn_3 (by decide) ?_
  refine g_bipush (v := (117 : Int32)) C dX11_isStubborn_5 (by decide) ?_
  refine g_bipush (v := (98 : Int32)) C dX11_isStubborn_7 (by decide) ?_
  refine g_bipush (v := (98 : Int32)) C dX11_isStubborn_9 (by decide) ?_
  refine g_bipush (v := (111 : Int32)) C dX11_isStubborn_11 (by decide) ?_
  obtain ⟨r1, hr1, h⟩ := Option.bind_eq_some_iff.mp h
  refine call_X11_151 C dX11_isStubborn_13 (c_X11_spelled E hr1) (by decide) rfl ?_
  refine g_ldc2 C dX11_isStubborn_16 qc_X11_135 ?_
  refine g_lmul C dX11_isStubborn_19 ?_
  refine g_ldc2 C dX11_isStubborn_20 qc_X11_159 ?_
  refine g_ladd C dX11_isStubborn_23 ?_
  refine g_ldc2 C dX11_isStubborn_24 qc_X11_135 ?_
  refine g_lmul C dX11_isStubborn_27 ?_
  refine g_ldc2 C dX11_isStubborn_28 qc_X11_161 ?_
  refine g_ladd C dX11_isStubborn_31 ?_
  obtain ⟨r2, hr2, h⟩ := Option.bind_eq_some_iff.mp h
  refine call_X11_155 C dX11_isStubborn_32 (by decide) (c_X11_isWord E hr2) (by decide) rfl ?_
  obtain ⟨hz3, h⟩ := of_ite h
  exact g_zret C R dX11_isStubborn_35 (Option.some.inj h) (isB_of hz3) rfl
noncomputable def f_X11_isPrice (M : Mem) : Option Int32 :=
  (f_X11_spelled (112 : Int32) (114 : Int32) (105 : Int32) (99 : Int32) (101 : Int32) (0 : Int32)).bind fun r1 =>
  (f_X11_isWord r1 M).bind fun r2 =>
  if isB r2 = true then some r2 else none
set_option maxRecDepth 20000 in
set_option maxHeartbeats 2000000 in
theorem c_X11_isPrice (E : wEnv) {M : Mem} {q : Int32} (h : f_X11_isPrice M = some q) : Mt E yX11_isPrice cX11_isPrice 1 (some .boolean) 1 [.ref (ad E 50 0)] M (some (.int q)) M := by
  unfold f_X11_isPrice at h
  refine mt_intro (own := RX11) (lv0 := [(0, .ref (ad E 50 0))]) (by decide) rfl rfl rfl (fun Y C R => ?_)
  refine g_aload_n C dX11_isPrice_0 rfl rfl ?_
  refine g_bipush (v := (112 : Int32)) C dX11_isPrice_1 (by decide) ?_
  refine g_bipush (v := (114 : Int32)) C dX11_isPrice_3 (by decide) ?_
  refine g_bipush (v := (105 : Int32)) C dX11_isPrice_5 (by decide) ?_
  refine g_bipush (v := (99 : Int32)) C dX11_isPrice_7 (by decide) ?_
  refine g_bipush (v := (101 : Int32)) C dX11_isPrice_9 (by decide) ?_
  refine g_iconst (v := (0 : Int32)) C dX11_isPrice_11 (by decide) ?_
  obtain ⟨r1, hr1, h⟩ := Option.bind_eq_some_iff.mp h
  refine call_X11_151 C dX11_isPrice_12 (c_X11_spelled E hr1) (by decide) rfl ?_
  obtain ⟨r2, hr2, h⟩ := Option.bind_eq_some_iff.mp h
  refine call_X11_155 C dX11_isPrice_15 (by decide) (c_X11_isWord E hr2) (by decide) rfl ?_
  obtain ⟨hz3, h⟩ := of_ite h
  exact g_zret C R dX11_isPrice_18 (Option.some.inj h) (isB_of hz3) rfl
noncomputable def f_X11_isSways (M : Mem) : Option Int32 :=
  (f_X11_spelled (115 : Int32) (119 : Int32) (97 : Int32) (121 : Int32) (115 : Int32) (0 : Int32)).bind fun r1 =>
  (f_X11_isWord r1 M).bind fun r2 =>
  if isB r2 = true then some r2 else none
set_option maxRecDepth 20000 in
set_option maxHeartbeats 2000000 in
theorem c_X11_isSways (E : wEnv) {M : Mem} {q : Int32} (h : f_X11_isSways M = some q) : Mt E yX11_isSways cX11_isSways 1 (some .boolean) 1 [.ref (ad E 50 0)] M (some (.int q)) M := by
  unfold f_X11_isSways at h
  refine mt_intro (own := RX11) (lv0 := [(0, .ref (ad E 50 0))]) (by decide) rfl rfl rfl (fun Y C R => ?_)
  refine g_aload_n C dX11_isSways_0 rfl rfl ?_
  refine g_bipush (v := (115 : Int32)) C dX11_isSways_1 (by decide) ?_
  refine g_bipush (v := (119 : Int32)) C dX11_isSways_3 (by decide) ?_
  refine g_bipush (v := (97 : Int32)) C dX11_isSways_5 (by decide) ?_
  refine g_bipush (v := (121 : Int32)) C dX11_isSways_7 (by decide) ?_
  refine g_bipush (v := (115 : Int32)) C dX11_isSways_9 (by decide) ?_
  refine g_iconst (v := (0 : Int32)) C dX11_isSways_11 (by decide) ?_
  obtain ⟨r1, hr1, h⟩ := Option.bind_eq_some_iff.mp h
  refine call_X11_151 C dX11_isSways_12 (c_X11_spelled E hr1) (by decide) rfl ?_
  obtain ⟨r2, hr2, h⟩ := Option.bind_eq_some_iff.mp h
  refine call_X11_155 C dX11_isSways_15 (by decide) (c_X11_isWord E hr2) (by decide) rfl ?_
  obtain ⟨hz3, h⟩ := of_ite h
  exact g_zret C R dX11_isSways_18 (Option.some.inj h) (isB_of hz3) rfl
noncomputable def f_X11_isProof (M : Mem) : Option Int32 :=
  (f_X11_spelled (112 : Int32) (114 : Int32) (111 : Int32) (111 : Int32) (102 : Int32) (0 : Int32)).bind fun r1 =>
  (f_X11_isWord r1 M).bind fun r2 =>
  if isB r2 = true then some r2 else none
set_option maxRecDepth 20000 in
set_option maxHeartbeats 2000000 in
theorem c_X11_isProof (E : wEnv) {M : Mem} {q : Int32} (h : f_X11_isProof M = some q) : Mt E yX11_isProof cX11_isProof 1 (some .boolean) 1 [.ref (ad E 50 0)] M (some (.int q)) M := by
  unfold f_X11_isProof at h
  refine mt_intro (own := RX11) (lv0 := [(0, .ref (ad E 50 0))]) (by decide) rfl rfl rfl (fun Y C R => ?_)
  refine g_aload_n C dX11_isProof_0 rfl rfl ?_
  refine g_bipush (v := (112 : Int32)) C dX11_isProof_1 (by decide) ?_
  refine g_bipush (v := (114 : Int32)) C dX11_isProof_3 (by decide) ?_
  refine g_bipush (v := (111 : Int32)) C dX11_isProof_5 (by decide) ?_
  refine g_bipush (v := (111 : Int32)) C dX11_isProof_7 (by decide) ?_
  refine g_bipush (v := (102 : Int32)) C dX11_isProof_9 (by decide) ?_
  refine g_iconst (v := (0 : Int32)) C dX11_isProof_11 (by decide) ?_
  obtain ⟨r1, hr1, h⟩ := Option.bind_eq_some_iff.mp h
  refine call_X11_151 C dX11_isProof_12 (c_X11_spelled E hr1) (by decide) rfl ?_
  obtain ⟨r2, hr2, h⟩ := Option.bind_eq_some_iff.mp h
  refine call_X11_155 C dX11_isProof_15 (by decide) (c_X11_isWord E hr2) (by decide) rfl ?_
  obtain ⟨hz3, h⟩ := of_ite h
  exact g_zret C R dX11_isProof_18 (Option.some.inj h) (isB_of hz3) rfl
noncomputable def f_X11_isWeather (M : Mem) : Option Int32 :=
  (f_X11_spelled (119 : Int32) (101 : Int32) (97 : Int32) (116 : Int32) (104 : Int32) (101 : Int32)).bind fun r1 =>
  (f_X11_isWord ((r1 * (32 : Int64)) + (18 : Int64)) M).bind fun r2 =>
  if isB r2 = true then some r2 else none
set_option maxRecDepth 20000 in
set_option maxHeartbeats 2000000 in
theorem c_X11_isWeather (E : wEnv) {M : Mem} {q : Int32} (h : f_X11_isWeather M = some q) : Mt E yX11_isWeather cX11_isWeather 1 (some .boolean) 1 [.ref (ad E 50 0)] M (some (.int q)) M := by
  unfold f_X11_isWeather at h
  refine mt_intro (own := RX11) (lv0 := [(0, .ref (ad E 50 0))]) (by decide) rfl rfl rfl (fun Y C R => ?_)
  refine g_aload_n C dX11_isWeather_0 rfl rfl ?_
  refine g_bipush (v := (119 : Int32)) C dX11_isWeather_1 (by decide) ?_
  refine g_bipush (v := (101 : Int32)) C dX11_isWeather_3 (by decide) ?_
  refine g_bipush (v := (97 : Int32)) C dX11_isWeather_5 (by decide) ?_
  refine g_bipush (v := (116 : Int32)) C dX11_isWeather_7 (by decide) ?_
  refine g_bipush (v := (104 : Int32)) C dX11_isWeather_9 (by decide) ?_
  refine g_bipush (v := (101 : Int32)) C dX11_isWeather_11 (by decide) ?_
  obtain ⟨r1, hr1, h⟩ := Option.bind_eq_some_iff.mp h
  refine call_X11_151 C dX11_isWeather_13 (c_X11_spelled E hr1) (by decide) rfl ?_
  refine g_ldc2 C dX11_isWeather_16 qc_X11_135 ?_
  refine g_lmul C dX11_isWeather_19 ?_
  refine g_ldc2 C dX11_isWeather_20 qc_X11_159 ?_
  refine g_ladd C dX11_isWeather_23 ?_
  obtain ⟨r2, hr2, h⟩ := Option.bind_eq_some_iff.mp h
  refine call_X11_155 C dX11_isWeather_24 (by decide) (c_X11_isWord E hr2) (by decide) rfl ?_
  obtain ⟨hz3, h⟩ := of_ite h
  exact g_zret C R dX11_isWeather_27 (Option.some.inj h) (isB_of hz3) rfl
noncomputable def f_X11_isFollows (M : Mem) : Option Int32 :=
  (f_X11_spelled (102 : Int32) (111 : Int32) (108 : Int32) (108 : Int32) (111 : Int32) (119 : Int32)).bind fun r1 =>
  (f_X11_isWord ((r1 * (32 : Int64)) + (19 : Int64)) M).bind fun r2 =>
  if isB r2 = true then some r2 else none
set_option maxRecDepth 20000 in
set_option maxHeartbeats 2000000 in
theorem c_X11_isFollows (E : wEnv) {M : Mem} {q : Int32} (h : f_X11_isFollows M = some q) : Mt E yX11_isFollows cX11_isFollows 1 (some .boolean) 1 [.ref (ad E 50 0)] M (some (.int q)) M := by
  unfold f_X11_isFollows at h
  refine mt_intro (own := RX11) (lv0 := [(0, .ref (ad E 50 0))]) (by decide) rfl rfl rfl (fun Y C R => ?_)
  refine g_aload_n C dX11_isFollows_0 rfl rfl ?_
  refine g_bipush (v := (102 : Int32)) C dX11_isFollows_1 (by decide) ?_
  refine g_bipush (v := (111 : Int32)) C dX11_isFollows_3 (by decide) ?_
  refine g_bipush (v := (108 : Int32)) C dX11_isFollows_5 (by decide) ?_
  refine g_bipush (v := (108 : Int32)) C dX11_isFollows_7 (by decide) ?_
  refine g_bipush (v := (111 : Int32)) C dX11_isFollows_9 (by decide) ?_
  refine g_bipush (v := (119 : Int32)) C dX11_isFollows_11 (by decide) ?_
  obtain ⟨r1, hr1, h⟩ := Option.bind_eq_some_iff.mp h
  refine call_X11_151 C dX11_isFollows_13 (c_X11_spelled E hr1) (by decide) rfl ?_
  refine g_ldc2 C dX11_isFollows_16 qc_X11_135 ?_
  refine g_lmul C dX11_isFollows_19 ?_
  refine g_ldc2 C dX11_isFollows_20 qc_X11_163 ?_
  refine g_ladd C dX11_isFollows_23 ?_
  obtain ⟨r2, hr2, h⟩ := Option.bind_eq_some_iff.mp h
  refine call_X11_155 C dX11_isFollows_24 (by decide) (c_X11_isWord E hr2) (by decide) rfl ?_
  obtain ⟨hz3, h⟩ := of_ite h
  exact g_zret C R dX11_isFollows_27 (Option.some.inj h) (isB_of hz3) rfl
noncomputable def f_X11_isGuilty (M : Mem) : Option Int32 :=
  (f_X11_spelled (103 : Int32) (117 : Int32) (105 : Int32) (108 : Int32) (116 : Int32) (121 : Int32)).bind fun r1 =>
  (f_X11_isWord r1 M).bind fun r2 =>
  if isB r2 = true then some r2 else none
set_option maxRecDepth 20000 in
set_option maxHeartbeats 2000000 in
theorem c_X11_isGuilty (E : wEnv) {M : Mem} {q : Int32} (h : f_X11_isGuilty M = some q) : Mt E yX11_isGuilty cX11_isGuilty 1 (some .boolean) 1 [.ref (ad E 50 0)] M (some (.int q)) M := by
  unfold f_X11_isGuilty at h
  refine mt_intro (own := RX11) (lv0 := [(0, .ref (ad E 50 0))]) (by decide) rfl rfl rfl (fun Y C R => ?_)
  refine g_aload_n C dX11_isGuilty_0 rfl rfl ?_
  refine g_bipush (v := (103 : Int32)) C dX11_isGuilty_1 (by decide) ?_
  refine g_bipush (v := (117 : Int32)) C dX11_isGuilty_3 (by decide) ?_
  refine g_bipush (v := (105 : Int32)) C dX11_isGuilty_5 (by decide) ?_
  refine g_bipush (v := (108 : Int32)) C dX11_isGuilty_7 (by decide) ?_
  refine g_bipush (v := (116 : Int32)) C dX11_isGuilty_9 (by decide) ?_
  refine g_bipush (v := (121 : Int32)) C dX11_isGuilty_11 (by decide) ?_
  obtain ⟨r1, hr1, h⟩ := Option.bind_eq_some_iff.mp h
  refine call_X11_151 C dX11_isGuilty_13 (c_X11_spelled E hr1) (by decide) rfl ?_
  obtain ⟨r2, hr2, h⟩ := Option.bind_eq_some_iff.mp h
  refine call_X11_155 C dX11_isGuilty_16 (by decide) (c_X11_isWord E hr2) (by decide) rfl ?_
  obtain ⟨hz3, h⟩ := of_ite h
  exact g_zret C R dX11_isGuilty_19 (Option.some.inj h) (isB_of hz3) rfl
noncomputable def f_X11_isFree (M : Mem) : Option Int32 :=
  (f_X11_spelled (102 : Int32) (114 : Int32) (101 : Int32) (101 : Int32) (0 : Int32) (0 : Int32)).bind fun r1 =>
  (f_X11_isWord r1 M).bind fun r2 =>
  if isB r2 = true then some r2 else none
set_option maxRecDepth 20000 in
set_option maxHeartbeats 2000000 in
theorem c_X11_isFree (E : wEnv) {M : Mem} {q : Int32} (h : f_X11_isFree M = some q) : Mt E yX11_isFree cX11_isFree 1 (some .boolean) 1 [.ref (ad E 50 0)] M (some (.int q)) M := by
  unfold f_X11_isFree at h
  refine mt_intro (own := RX11) (lv0 := [(0, .ref (ad E 50 0))]) (by decide) rfl rfl rfl (fun Y C R => ?_)
  refine g_aload_n C dX11_isFree_0 rfl rfl ?_
  refine g_bipush (v := (102 : Int32)) C dX11_isFree_1 (by decide) ?_
  refine g_bipush (v := (114 : Int32)) C dX11_isFree_3 (by decide) ?_
  refine g_bipush (v := (101 : Int32)) C dX11_isFree_5 (by decide) ?_
  refine g_bipush (v := (101 : Int32)) C dX11_isFree_7 (by decide) ?_
  refine g_iconst (v := (0 : Int32)) C dX11_isFree_9 (by decide) ?_
  refine g_iconst (v := (0 : Int32)) C dX11_isFree_10 (by decide) ?_
  obtain ⟨r1, hr1, h⟩ := Option.bind_eq_some_iff.mp h
  refine call_X11_151 C dX11_isFree_11 (c_X11_spelled E hr1) (by decide) rfl ?_
  obtain ⟨r2, hr2, h⟩ := Option.bind_eq_some_iff.mp h
  refine call_X11_155 C dX11_isFree_14 (by decide) (c_X11_isWord E hr2) (by decide) rfl ?_
  obtain ⟨hz3, h⟩ := of_ite h
  exact g_zret C R dX11_isFree_17 (Option.some.inj h) (isB_of hz3) rfl
noncomputable def f_X11_isCrop (M : Mem) : Option Int32 :=
  (f_X11_spelled (99 : Int32) (114 : Int32) (111 : Int32) (112 : Int32) (0 : Int32) (0 : Int32)).bind fun r1 =>
  (f_X11_isWord r1 M).bind fun r2 =>
  if isB r2 = true then some r2 else none
set_option maxRecDepth 20000 in
set_option maxHeartbeats 2000000 in
theorem c_X11_isCrop (E : wEnv) {M : Mem} {q : Int32} (h : f_X11_isCrop M = some q) : Mt E yX11_isCrop cX11_isCrop 1 (some .boolean) 1 [.ref (ad E 50 0)] M (some (.int q)) M := by
  unfold f_X11_isCrop at h
  refine mt_intro (own := RX11) (lv0 := [(0, .ref (ad E 50 0))]) (by decide) rfl rfl rfl (fun Y C R => ?_)
  refine g_aload_n C dX11_isCrop_0 rfl rfl ?_
  refine g_bipush (v := (99 : Int32)) C dX11_isCrop_1 (by decide) ?_
  refine g_bipush (v := (114 : Int32)) C dX11_isCrop_3 (by decide) ?_
  refine g_bipush (v := (111 : Int32)) C dX11_isCrop_5 (by decide) ?_
  refine g_bipush (v := (112 : Int32)) C dX11_isCrop_7 (by decide) ?_
  refine g_iconst (v := (0 : Int32)) C dX11_isCrop_9 (by decide) ?_
  refine g_iconst (v := (0 : Int32)) C dX11_isCrop_10 (by decide) ?_
  obtain ⟨r1, hr1, h⟩ := Option.bind_eq_some_iff.mp h
  refine call_X11_151 C dX11_isCrop_11 (c_X11_spelled E hr1) (by decide) rfl ?_
  obtain ⟨r2, hr2, h⟩ := Option.bind_eq_some_iff.mp h
  refine call_X11_155 C dX11_isCrop_14 (by decide) (c_X11_isWord E hr2) (by decide) rfl ?_
  obtain ⟨hz3, h⟩ := of_ite h
  exact g_zret C R dX11_isCrop_17 (Option.some.inj h) (isB_of hz3) rfl
noncomputable def f_X11_isOn (M : Mem) : Option Int32 :=
  (f_X11_spelled (111 : Int32) (110 : Int32) (0 : Int32) (0 : Int32) (0 : Int32) (0 : Int32)).bind fun r1 =>
  (f_X11_isWord r1 M).bind fun r2 =>
  if isB r2 = true then some r2 else none
set_option maxRecDepth 20000 in
set_option maxHeartbeats 2000000 in
theorem c_X11_isOn (E : wEnv) {M : Mem} {q : Int32} (h : f_X11_isOn M = some q) : Mt E yX11_isOn cX11_isOn 1 (some .boolean) 1 [.ref (ad E 50 0)] M (some (.int q)) M := by
  unfold f_X11_isOn at h
  refine mt_intro (own := RX11) (lv0 := [(0, .ref (ad E 50 0))]) (by decide) rfl rfl rfl (fun Y C R => ?_)
  refine g_aload_n C dX11_isOn_0 rfl rfl ?_
  refine g_bipush (v := (111 : Int32)) C dX11_isOn_1 (by decide) ?_
  refine g_bipush (v := (110 : Int32)) C dX11_isOn_3 (by decide) ?_
  refine g_iconst (v := (0 : Int32)) C dX11_isOn_5 (by decide) ?_
  refine g_iconst (v := (0 : Int32)) C dX11_isOn_6 (by decide) ?_
  refine g_iconst (v := (0 : Int32)) C dX11_isOn_7 (by decide) ?_
  refine g_iconst (v := (0 : Int32)) C dX11_isOn_8 (by decide) ?_
  obtain ⟨r1, hr1, h⟩ := Option.bind_eq_some_iff.mp h
  refine call_X11_151 C dX11_isOn_9 (c_X11_spelled E hr1) (by decide) rfl ?_
  obtain ⟨r2, hr2, h⟩ := Option.bind_eq_some_iff.mp h
  refine call_X11_155 C dX11_isOn_12 (by decide) (c_X11_isWord E hr2) (by decide) rfl ?_
  obtain ⟨hz3, h⟩ := of_ite h
  exact g_zret C R dX11_isOn_15 (Option.some.inj h) (isB_of hz3) rfl
noncomputable def f_X11_isHunger (M : Mem) : Option Int32 :=
  (f_X11_spelled (104 : Int32) (117 : Int32) (110 : Int32) (103 : Int32) (101 : Int32) (114 : Int32)).bind fun r1 =>
  (f_X11_isWord r1 M).bind fun r2 =>
  if isB r2 = true then some r2 else none
set_option maxRecDepth 20000 in
set_option maxHeartbeats 2000000 in
theorem c_X11_isHunger (E : wEnv) {M : Mem} {q : Int32} (h : f_X11_isHunger M = some q) : Mt E yX11_isHunger cX11_isHunger 1 (some .boolean) 1 [.ref (ad E 50 0)] M (some (.int q)) M := by
  unfold f_X11_isHunger at h
  refine mt_intro (own := RX11) (lv0 := [(0, .ref (ad E 50 0))]) (by decide) rfl rfl rfl (fun Y C R => ?_)
  refine g_aload_n C dX11_isHunger_0 rfl rfl ?_
  refine g_bipush (v := (104 : Int32)) C dX11_isHunger_1 (by decide) ?_
  refine g_bipush (v := (117 : Int32)) C dX11_isHunger_3 (by decide) ?_
  refine g_bipush (v := (110 : Int32)) C dX11_isHunger_5 (by decide) ?_
  refine g_bipush (v := (103 : Int32)) C dX11_isHunger_7 (by decide) ?_
  refine g_bipush (v := (101 : Int32)) C dX11_isHunger_9 (by decide) ?_
  refine g_bipush (v := (114 : Int32)) C dX11_isHunger_11 (by decide) ?_
  obtain ⟨r1, hr1, h⟩ := Option.bind_eq_some_iff.mp h
  refine call_X11_151 C dX11_isHunger_13 (c_X11_spelled E hr1) (by decide) rfl ?_
  obtain ⟨r2, hr2, h⟩ := Option.bind_eq_some_iff.mp h
  refine call_X11_155 C dX11_isHunger_16 (by decide) (c_X11_isWord E hr2) (by decide) rfl ?_
  obtain ⟨hz3, h⟩ := of_ite h
  exact g_zret C R dX11_isHunger_19 (Option.some.inj h) (isB_of hz3) rfl
noncomputable def f_X11_isLaw (M : Mem) : Option Int32 :=
  (f_X11_spelled (108 : Int32) (97 : Int32) (119 : Int32) (0 : Int32) (0 : Int32) (0 : Int32)).bind fun r1 =>
  (f_X11_isWord r1 M).bind fun r2 =>
  if isB r2 = true then some r2 else none
set_option maxRecDepth 20000 in
set_option maxHeartbeats 2000000 in
theorem c_X11_isLaw (E : wEnv) {M : Mem} {q : Int32} (h : f_X11_isLaw M = some q) : Mt E yX11_isLaw cX11_isLaw 1 (some .boolean) 1 [.ref (ad E 50 0)] M (some (.int q)) M := by
  unfold f_X11_isLaw at h
  refine mt_intro (own := RX11) (lv0 := [(0, .ref (ad E 50 0))]) (by decide) rfl rfl rfl (fun Y C R => ?_)
  refine g_aload_n C dX11_isLaw_0 rfl rfl ?_
  refine g_bipush (v := (108 : Int32)) C dX11_isLaw_1 (by decide) ?_
  refine g_bipush (v := (97 : Int32)) C dX11_isLaw_3 (by decide) ?_
  refine g_bipush (v := (119 : Int32)) C dX11_isLaw_5 (by decide) ?_
  refine g_iconst (v := (0 : Int32)) C dX11_isLaw_7 (by decide) ?_
  refine g_iconst (v := (0 : Int32)) C dX11_isLaw_8 (by decide) ?_
  refine g_iconst (v := (0 : Int32)) C dX11_isLaw_9 (by decide) ?_
  obtain ⟨r1, hr1, h⟩ := Option.bind_eq_some_iff.mp h
  refine call_X11_151 C dX11_isLaw_10 (c_X11_spelled E hr1) (by decide) rfl ?_
  obtain ⟨r2, hr2, h⟩ := Option.bind_eq_some_iff.mp h
  refine call_X11_155 C dX11_isLaw_13 (by decide) (c_X11_isWord E hr2) (by decide) rfl ?_
  obtain ⟨hz3, h⟩ := of_ite h
  exact g_zret C R dX11_isLaw_16 (Option.some.inj h) (isB_of hz3) rfl
noncomputable def f_X11_lawWord (M : Mem) : Option Int32 :=
  (f_X11_spelled (109 : Int32) (111 : Int32) (115 : Int32) (116 : Int32) (0 : Int32) (0 : Int32)).bind fun r1 =>
  (f_X11_isWord r1 M).bind fun r2 =>
  if r2 = 0 then
    (f_X11_spelled (97 : Int32) (108 : Int32) (108 : Int32) (0 : Int32) (0 : Int32) (0 : Int32)).bind fun r3 =>
    (f_X11_isWord r3 M).bind fun r4 =>
    if r4 = 0 then
      (f_X11_spelled (116 : Int32) (119 : Int32) (111 : Int32) (0 : Int32) (0 : Int32) (0 : Int32)).bind fun r5 =>
      (f_X11_isWord r5 M).bind fun r6 =>
      if r6 = 0 then
        some (-1 : Int32)
      else
        some (2 : Int32)
    else
      some (1 : Int32)
  else
    some (0 : Int32)
set_option maxRecDepth 20000 in
set_option maxHeartbeats 2000000 in
theorem c_X11_lawWord (E : wEnv) {M : Mem} {q : Int32} (h : f_X11_lawWord M = some q) : Mt E yX11_lawWord cX11_lawWord 1 (some .int) 1 [.ref (ad E 50 0)] M (some (.int q)) M := by
  unfold f_X11_lawWord at h
  refine mt_intro (own := RX11) (lv0 := [(0, .ref (ad E 50 0))]) (by decide) rfl rfl rfl (fun Y C R => ?_)
  refine g_aload_n C dX11_lawWord_0 rfl rfl ?_
  refine g_bipush (v := (109 : Int32)) C dX11_lawWord_1 (by decide) ?_
  refine g_bipush (v := (111 : Int32)) C dX11_lawWord_3 (by decide) ?_
  refine g_bipush (v := (115 : Int32)) C dX11_lawWord_5 (by decide) ?_
  refine g_bipush (v := (116 : Int32)) C dX11_lawWord_7 (by decide) ?_
  refine g_iconst (v := (0 : Int32)) C dX11_lawWord_9 (by decide) ?_
  refine g_iconst (v := (0 : Int32)) C dX11_lawWord_10 (by decide) ?_
  obtain ⟨r1, hr1, h⟩ := Option.bind_eq_some_iff.mp h
  refine call_X11_151 C dX11_lawWord_11 (c_X11_spelled E hr1) (by decide) rfl ?_
  obtain ⟨r2, hr2, h⟩ := Option.bind_eq_some_iff.mp h
  refine call_X11_155 C dX11_lawWord_14 (by decide) (c_X11_isWord E hr2) (by decide) rfl ?_
  refine g_if_eq (tgt := 22) C dX11_lawWord_17 (by decide) h (fun h => ?_) (fun h => ?_)
  · refine g_aload_n C dX11_lawWord_22 rfl rfl ?_
    refine g_bipush (v := (97 : Int32)) C dX11_lawWord_23 (by decide) ?_
    refine g_bipush (v := (108 : Int32)) C dX11_lawWord_25 (by decide) ?_
    refine g_bipush (v := (108 : Int32)) C dX11_lawWord_27 (by decide) ?_
    refine g_iconst (v := (0 : Int32)) C dX11_lawWord_29 (by decide) ?_
    refine g_iconst (v := (0 : Int32)) C dX11_lawWord_30 (by decide) ?_
    refine g_iconst (v := (0 : Int32)) C dX11_lawWord_31 (by decide) ?_
    obtain ⟨r3, hr3, h⟩ := Option.bind_eq_some_iff.mp h
    refine call_X11_151 C dX11_lawWord_32 (c_X11_spelled E hr3) (by decide) rfl ?_
    obtain ⟨r4, hr4, h⟩ := Option.bind_eq_some_iff.mp h
    refine call_X11_155 C dX11_lawWord_35 (by decide) (c_X11_isWord E hr4) (by decide) rfl ?_
    refine g_if_eq (tgt := 43) C dX11_lawWord_38 (by decide) h (fun h => ?_) (fun h => ?_)
    · refine g_aload_n C dX11_lawWord_43 rfl rfl ?_
      refine g_bipush (v := (116 : Int32)) C dX11_lawWord_44 (by decide) ?_
      refine g_bipush (v := (119 : Int32)) C dX11_lawWord_46 (by decide) ?_
      refine g_bipush (v := (111 : Int32)) C dX11_lawWord_48 (by decide) ?_
      refine g_iconst (v := (0 : Int32)) C dX11_lawWord_50 (by decide) ?_
      refine g_iconst (v := (0 : Int32)) C dX11_lawWord_51 (by decide) ?_
      refine g_iconst (v := (0 : Int32)) C dX11_lawWord_52 (by decide) ?_
      obtain ⟨r5, hr5, h⟩ := Option.bind_eq_some_iff.mp h
      refine call_X11_151 C dX11_lawWord_53 (c_X11_spelled E hr5) (by decide) rfl ?_
      obtain ⟨r6, hr6, h⟩ := Option.bind_eq_some_iff.mp h
      refine call_X11_155 C dX11_lawWord_56 (by decide) (c_X11_isWord E hr6) (by decide) rfl ?_
      refine g_if_eq (tgt := 66) C dX11_lawWord_59 (by decide) h (fun h => ?_) (fun h => ?_)
      · refine g_iconst (v := (-1 : Int32)) C dX11_lawWord_66 (by decide) ?_
        exact g_iret C R dX11_lawWord_67 (Option.some.inj h) rfl
      · refine g_iconst (v := (2 : Int32)) C dX11_lawWord_62 (by decide) ?_
        refine g_goto (tgt := 67) C dX11_lawWord_63 (by decide) ?_
        exact g_iret C R dX11_lawWord_67 (Option.some.inj h) rfl
    · refine g_iconst (v := (1 : Int32)) C dX11_lawWord_41 (by decide) ?_
      exact g_iret C R dX11_lawWord_42 (Option.some.inj h) rfl
  · refine g_iconst (v := (0 : Int32)) C dX11_lawWord_20 (by decide) ?_
    exact g_iret C R dX11_lawWord_21 (Option.some.inj h) rfl
noncomputable def f_X11_stepWord (M : Mem) : Option Int32 :=
  (f_X11_spelled (115 : Int32) (104 : Int32) (111 : Int32) (119 : Int32) (0 : Int32) (0 : Int32)).bind fun r1 =>
  (f_X11_isWord r1 M).bind fun r2 =>
  if r2 = 0 then
    (f_X11_spelled (116 : Int32) (97 : Int32) (108 : Int32) (107 : Int32) (0 : Int32) (0 : Int32)).bind fun r3 =>
    (f_X11_isWord r3 M).bind fun r4 =>
    if r4 = 0 then
      (f_X11_spelled (118 : Int32) (101 : Int32) (114 : Int32) (100 : Int32) (105 : Int32) (99 : Int32)).bind fun r5 =>
      (f_X11_isWord ((r5 * (32 : Int64)) + (20 : Int64)) M).bind fun r6 =>
      if r6 = 0 then
        (f_X11_spelled (115 : Int32) (116 : Int32) (114 : Int32) (105 : Int32) (107 : Int32) (101 : Int32)).bind fun r7 =>
        (f_X11_isWord r7 M).bind fun r8 =>
        if r8 = 0 then
          (f_X11_spelled (115 : Int32) (101 : Int32) (97 : Int32) (116 : Int32) (0 : Int32) (0 : Int32)).bind fun r9 =>
          (f_X11_isWord r9 M).bind fun r10 =>
          if r10 = 0 then
            (f_X11_spelled (98 : Int32) (114 : Int32) (105 : Int32) (98 : Int32) (101 : Int32) (0 : Int32)).bind fun r11 =>
            (f_X11_isWord r11 M).bind fun r12 =>
            if r12 = 0 then
              (f_X11_spelled (109 : Int32) (111 : Int32) (111 : Int32) (100 : Int32) (0 : Int32) (0 : Int32)).bind fun r13 =>
              (f_X11_isWord r13 M).bind fun r14 =>
              if r14 = 0 then
                (f_X11_spelled (119 : Int32) (104 : Int32) (101 : Int32) (110 : Int32) (0 : Int32) (0 : Int32)).bind fun r15 =>
                (f_X11_isWord r15 M).bind fun r16 =>
                if r16 = 0 then
                  (f_X11_spelled (108 : Int32) (111 : Int32) (111 : Int32) (112 : Int32) (0 : Int32) (0 : Int32)).bind fun r17 =>
                  (f_X11_isWord r17 M).bind fun r18 =>
                  if r18 = 0 then
                    (f_X11_spelled (115 : Int32) (116 : Int32) (111 : Int32) (112 : Int32) (0 : Int32) (0 : Int32)).bind fun r19 =>
                    (f_X11_isWord r19 M).bind fun r20 =>
                    if r20 = 0 then
                      some (-1 : Int32)
                    else
                      some (9 : Int32)
                  else
                    some (8 : Int32)
                else
                  some (7 : Int32)
              else
                some (6 : Int32)
            else
              some (5 : Int32)
          else
            some (4 : Int32)
        else
          some (3 : Int32)
      else
        some (2 : Int32)
    else
      some (1 : Int32)
  else
    some (0 : Int32)
set_option maxRecDepth 20000 in
set_option maxHeartbeats 2000000 in
theorem c_X11_stepWord (E : wEnv) {M : Mem} {q : Int32} (h : f_X11_stepWord M = some q) : Mt E yX11_stepWord cX11_stepWord 1 (some .int) 1 [.ref (ad E 50 0)] M (some (.int q)) M := by
  unfold f_X11_stepWord at h
  refine mt_intro (own := RX11) (lv0 := [(0, .ref (ad E 50 0))]) (by decide) rfl rfl rfl (fun Y C R => ?_)
  refine g_aload_n C dX11_stepWord_0 rfl rfl ?_
  refine g_bipush (v := (115 : Int32)) C dX11_stepWord_1 (by decide) ?_
  refine g_bipush (v := (104 : Int32)) C dX11_stepWord_3 (by decide) ?_
  refine g_bipush (v := (111 : Int32)) C dX11_stepWord_5 (by decide) ?_
  refine g_bipush (v := (119 : Int32)) C dX11_stepWord_7 (by decide) ?_
  refine g_iconst (v := (0 : Int32)) C dX11_stepWord_9 (by decide) ?_
  refine g_iconst (v := (0 : Int32)) C dX11_stepWord_10 (by decide) ?_
  obtain ⟨r1, hr1, h⟩ := Option.bind_eq_some_iff.mp h
  refine call_X11_151 C dX11_stepWord_11 (c_X11_spelled E hr1) (by decide) rfl ?_
  obtain ⟨r2, hr2, h⟩ := Option.bind_eq_some_iff.mp h
  refine call_X11_155 C dX11_stepWord_14 (by decide) (c_X11_isWord E hr2) (by decide) rfl ?_
  refine g_if_eq (tgt := 22) C dX11_stepWord_17 (by decide) h (fun h => ?_) (fun h => ?_)
  · refine g_aload_n C dX11_stepWord_22 rfl rfl ?_
    refine g_bipush (v := (116 : Int32)) C dX11_stepWord_23 (by decide) ?_
    refine g_bipush (v := (97 : Int32)) C dX11_stepWord_25 (by decide) ?_
    refine g_bipush (v := (108 : Int32)) C dX11_stepWord_27 (by decide) ?_
    refine g_bipush (v := (107 : Int32)) C dX11_stepWord_29 (by decide) ?_
    refine g_iconst (v := (0 : Int32)) C dX11_stepWord_31 (by decide) ?_
    refine g_iconst (v := (0 : Int32)) C dX11_stepWord_32 (by decide) ?_
    obtain ⟨r3, hr3, h⟩ := Option.bind_eq_some_iff.mp h
    refine call_X11_151 C dX11_stepWord_33 (c_X11_spelled E hr3) (by decide) rfl ?_
    obtain ⟨r4, hr4, h⟩ := Option.bind_eq_some_iff.mp h
    refine call_X11_155 C dX11_stepWord_36 (by decide) (c_X11_isWord E hr4) (by decide) rfl ?_
    refine g_if_eq (tgt := 44) C dX11_stepWord_39 (by decide) h (fun h => ?_) (fun h => ?_)
    · refine g_aload_n C dX11_stepWord_44 rfl rfl ?_
      refine g_bipush (v := (118 : Int32)) C dX11_stepWord_45 (by decide) ?_
      refine g_bipush (v := (101 : Int32)) C dX11_stepWord_47 (by decide) ?_
      refine g_bipush (v := (114 : Int32)) C dX11_stepWord_49 (by decide) ?_
      refine g_bipush (v := (100 : Int32)) C dX11_stepWord_51 (by decide) ?_
      refine g_bipush (v := (105 : Int32)) C dX11_stepWord_53 (by decide) ?_
      refine g_bipush (v := (99 : Int32)) C dX11_stepWord_55 (by decide) ?_
      obtain ⟨r5, hr5, h⟩ := Option.bind_eq_some_iff.mp h
      refine call_X11_151 C dX11_stepWord_57 (c_X11_spelled E hr5) (by decide) rfl ?_
      refine g_ldc2 C dX11_stepWord_60 qc_X11_135 ?_
      refine g_lmul C dX11_stepWord_63 ?_
      refine g_ldc2 C dX11_stepWord_64 qc_X11_165 ?_
      refine g_ladd C dX11_stepWord_67 ?_
      obtain ⟨r6, hr6, h⟩ := Option.bind_eq_some_iff.mp h
      refine call_X11_155 C dX11_stepWord_68 (by decide) (c_X11_isWord E hr6) (by decide) rfl ?_
      refine g_if_eq (tgt := 76) C dX11_stepWord_71 (by decide) h (fun h => ?_) (fun h => ?_)
      · refine g_aload_n C dX11_stepWord_76 rfl rfl ?_
        refine g_bipush (v := (115 : Int32)) C dX11_stepWord_77 (by decide) ?_
        refine g_bipush (v := (116 : Int32)) C dX11_stepWord_79 (by decide) ?_
        refine g_bipush (v := (114 : Int32)) C dX11_stepWord_81 (by decide) ?_
        refine g_bipush (v := (105 : Int32)) C dX11_stepWord_83 (by decide) ?_
        refine g_bipush (v := (107 : Int32)) C dX11_stepWord_85 (by decide) ?_
        refine g_bipush (v := (101 : Int32)) C dX11_stepWord_87 (by decide) ?_
        obtain ⟨r7, hr7, h⟩ := Option.bind_eq_some_iff.mp h
        refine call_X11_151 C dX11_stepWord_89 (c_X11_spelled E hr7) (by decide) rfl ?_
        obtain ⟨r8, hr8, h⟩ := Option.bind_eq_some_iff.mp h
        refine call_X11_155 C dX11_stepWord_92 (by decide) (c_X11_isWord E hr8) (by decide) rfl ?_
        refine g_if_eq (tgt := 100) C dX11_stepWord_95 (by decide) h (fun h => ?_) (fun h => ?_)
        · refine g_aload_n C dX11_stepWord_100 rfl rfl ?_
          refine g_bipush (v := (115 : Int32)) C dX11_stepWord_101 (by decide) ?_
          refine g_bipush (v := (101 : Int32)) C dX11_stepWord_103 (by decide) ?_
          refine g_bipush (v := (97 : Int32)) C dX11_stepWord_105 (by decide) ?_
          refine g_bipush (v := (116 : Int32)) C dX11_stepWord_107 (by decide) ?_
          refine g_iconst (v := (0 : Int32)) C dX11_stepWord_109 (by decide) ?_
          refine g_iconst (v := (0 : Int32)) C dX11_stepWord_110 (by decide) ?_
          obtain ⟨r9, hr9, h⟩ := Option.bind_eq_some_iff.mp h
          refine call_X11_151 C dX11_stepWord_111 (c_X11_spelled E hr9) (by decide) rfl ?_
          obtain ⟨r10, hr10, h⟩ := Option.bind_eq_some_iff.mp h
          refine call_X11_155 C dX11_stepWord_114 (by decide) (c_X11_isWord E hr10) (by decide) rfl ?_
          refine g_if_eq (tgt := 122) C dX11_stepWord_117 (by decide) h (fun h => ?_) (fun h => ?_)
          · refine g_aload_n C dX11_stepWord_122 rfl rfl ?_
            refine g_bipush (v := (98 : Int32)) C dX11_stepWord_123 (by decide) ?_
            refine g_bipush (v := (114 : Int32)) C dX11_stepWord_125 (by decide) ?_
            refine g_bipush (v := (105 : Int32)) C dX11_stepWord_127 (by decide) ?_
            refine g_bipush (v := (98 : Int32)) C dX11_stepWord_129 (by decide) ?_
            refine g_bipush (v := (101 : Int32)) C dX11_stepWord_131 (by decide) ?_
            refine g_iconst (v := (0 : Int32)) C dX11_stepWord_133 (by decide) ?_
            obtain ⟨r11, hr11, h⟩ := Option.bind_eq_some_iff.mp h
            refine call_X11_151 C dX11_stepWord_134 (c_X11_spelled E hr11) (by decide) rfl ?_
            obtain ⟨r12, hr12, h⟩ := Option.bind_eq_some_iff.mp h
            refine call_X11_155 C dX11_stepWord_137 (by decide) (c_X11_isWord E hr12) (by decide) rfl ?_
            refine g_if_eq (tgt := 145) C dX11_stepWord_140 (by decide) h (fun h => ?_) (fun h => ?_)
            · refine g_aload_n C dX11_stepWord_145 rfl rfl ?_
              refine g_bipush (v := (109 : Int32)) C dX11_stepWord_146 (by decide) ?_
              refine g_bipush (v := (111 : Int32)) C dX11_stepWord_148 (by decide) ?_
              refine g_bipush (v := (111 : Int32)) C dX11_stepWord_150 (by decide) ?_
              refine g_bipush (v := (100 : Int32)) C dX11_stepWord_152 (by decide) ?_
              refine g_iconst (v := (0 : Int32)) C dX11_stepWord_154 (by decide) ?_
              refine g_iconst (v := (0 : Int32)) C dX11_stepWord_155 (by decide) ?_
              obtain ⟨r13, hr13, h⟩ := Option.bind_eq_some_iff.mp h
              refine call_X11_151 C dX11_stepWord_156 (c_X11_spelled E hr13) (by decide) rfl ?_
              obtain ⟨r14, hr14, h⟩ := Option.bind_eq_some_iff.mp h
              refine call_X11_155 C dX11_stepWord_159 (by decide) (c_X11_isWord E hr14) (by decide) rfl ?_
              refine g_if_eq (tgt := 168) C dX11_stepWord_162 (by decide) h (fun h => ?_) (fun h => ?_)
              · refine g_aload_n C dX11_stepWord_168 rfl rfl ?_
                refine g_bipush (v := (119 : Int32)) C dX11_stepWord_169 (by decide) ?_
                refine g_bipush (v := (104 : Int32)) C dX11_stepWord_171 (by decide) ?_
                refine g_bipush (v := (101 : Int32)) C dX11_stepWord_173 (by decide) ?_
                refine g_bipush (v := (110 : Int32)) C dX11_stepWord_175 (by decide) ?_
                refine g_iconst (v := (0 : Int32)) C dX11_stepWord_177 (by decide) ?_
                refine g_iconst (v := (0 : Int32)) C dX11_stepWord_178 (by decide) ?_
                obtain ⟨r15, hr15, h⟩ := Option.bind_eq_some_iff.mp h
                refine call_X11_151 C dX11_stepWord_179 (c_X11_spelled E hr15) (by decide) rfl ?_
                obtain ⟨r16, hr16, h⟩ := Option.bind_eq_some_iff.mp h
                refine call_X11_155 C dX11_stepWord_182 (by decide) (c_X11_isWord E hr16) (by decide) rfl ?_
                refine g_if_eq (tgt := 191) C dX11_stepWord_185 (by decide) h (fun h => ?_) (fun h => ?_)
                · refine g_aload_n C dX11_stepWord_191 rfl rfl ?_
                  refine g_bipush (v := (108 : Int32)) C dX11_stepWord_192 (by decide) ?_
                  refine g_bipush (v := (111 : Int32)) C dX11_stepWord_194 (by decide) ?_
                  refine g_bipush (v := (111 : Int32)) C dX11_stepWord_196 (by decide) ?_
                  refine g_bipush (v := (112 : Int32)) C dX11_stepWord_198 (by decide) ?_
                  refine g_iconst (v := (0 : Int32)) C dX11_stepWord_200 (by decide) ?_
                  refine g_iconst (v := (0 : Int32)) C dX11_stepWord_201 (by decide) ?_
                  obtain ⟨r17, hr17, h⟩ := Option.bind_eq_some_iff.mp h
                  refine call_X11_151 C dX11_stepWord_202 (c_X11_spelled E hr17) (by decide) rfl ?_
                  obtain ⟨r18, hr18, h⟩ := Option.bind_eq_some_iff.mp h
                  refine call_X11_155 C dX11_stepWord_205 (by decide) (c_X11_isWord E hr18) (by decide) rfl ?_
                  refine g_if_eq (tgt := 214) C dX11_stepWord_208 (by decide) h (fun h => ?_) (fun h => ?_)
                  · refine g_aload_n C dX11_stepWord_214 rfl rfl ?_
                    refine g_bipush (v := (115 : Int32)) C dX11_stepWord_215 (by decide) ?_
                    refine g_bipush (v := (116 : Int32)) C dX11_stepWord_217 (by decide) ?_
                    refine g_bipush (v := (111 : Int32)) C dX11_stepWord_219 (by decide) ?_
                    refine g_bipush (v := (112 : Int32)) C dX11_stepWord_221 (by decide) ?_
                    refine g_iconst (v := (0 : Int32)) C dX11_stepWord_223 (by decide) ?_
                    refine g_iconst (v := (0 : Int32)) C dX11_stepWord_224 (by decide) ?_
                    obtain ⟨r19, hr19, h⟩ := Option.bind_eq_some_iff.mp h
                    refine call_X11_151 C dX11_stepWord_225 (c_X11_spelled E hr19) (by decide) rfl ?_
                    obtain ⟨r20, hr20, h⟩ := Option.bind_eq_some_iff.mp h
                    refine call_X11_155 C dX11_stepWord_228 (by decide) (c_X11_isWord E hr20) (by decide) rfl ?_
                    refine g_if_eq (tgt := 239) C dX11_stepWord_231 (by decide) h (fun h => ?_) (fun h => ?_)
                    · refine g_iconst (v := (-1 : Int32)) C dX11_stepWord_239 (by decide) ?_
                      exact g_iret C R dX11_stepWord_240 (Option.some.inj h) rfl
                    · refine g_bipush (v := (9 : Int32)) C dX11_stepWord_234 (by decide) ?_
                      refine g_goto (tgt := 240) C dX11_stepWord_236 (by decide) ?_
                      exact g_iret C R dX11_stepWord_240 (Option.some.inj h) rfl
                  · refine g_bipush (v := (8 : Int32)) C dX11_stepWord_211 (by decide) ?_
                    exact g_iret C R dX11_stepWord_213 (Option.some.inj h) rfl
                · refine g_bipush (v := (7 : Int32)) C dX11_stepWord_188 (by decide) ?_
                  exact g_iret C R dX11_stepWord_190 (Option.some.inj h) rfl
              · refine g_bipush (v := (6 : Int32)) C dX11_stepWord_165 (by decide) ?_
                exact g_iret C R dX11_stepWord_167 (Option.some.inj h) rfl
            · refine g_iconst (v := (5 : Int32)) C dX11_stepWord_143 (by decide) ?_
              exact g_iret C R dX11_stepWord_144 (Option.some.inj h) rfl
          · refine g_iconst (v := (4 : Int32)) C dX11_stepWord_120 (by decide) ?_
            exact g_iret C R dX11_stepWord_121 (Option.some.inj h) rfl
        · refine g_iconst (v := (3 : Int32)) C dX11_stepWord_98 (by decide) ?_
          exact g_iret C R dX11_stepWord_99 (Option.some.inj h) rfl
      · refine g_iconst (v := (2 : Int32)) C dX11_stepWord_74 (by decide) ?_
        exact g_iret C R dX11_stepWord_75 (Option.some.inj h) rfl
    · refine g_iconst (v := (1 : Int32)) C dX11_stepWord_42 (by decide) ?_
      exact g_iret C R dX11_stepWord_43 (Option.some.inj h) rfl
  · refine g_iconst (v := (0 : Int32)) C dX11_stepWord_20 (by decide) ?_
    exact g_iret C R dX11_stepWord_21 (Option.some.inj h) rfl
noncomputable def f_X11_testWord (M : Mem) : Option Int32 :=
  (f_X11_spelled (118 : Int32) (111 : Int32) (116 : Int32) (101 : Int32) (115 : Int32) (0 : Int32)).bind fun r1 =>
  (f_X11_isWord r1 M).bind fun r2 =>
  if r2 = 0 then
    (f_X11_isWeather M).bind fun r3 =>
    if r3 = 0 then
      (f_X11_isCrop M).bind fun r4 =>
      if r4 = 0 then
        some (-1 : Int32)
      else
        some (2 : Int32)
    else
      some (1 : Int32)
  else
    some (0 : Int32)
set_option maxRecDepth 20000 in
set_option maxHeartbeats 2000000 in
theorem c_X11_testWord (E : wEnv) {M : Mem} {q : Int32} (h : f_X11_testWord M = some q) : Mt E yX11_testWord cX11_testWord 1 (some .int) 2 [.ref (ad E 50 0)] M (some (.int q)) M := by
  unfold f_X11_testWord at h
  refine mt_intro (own := RX11) (lv0 := [(0, .ref (ad E 50 0))]) (by decide) rfl rfl rfl (fun Y C R => ?_)
  refine g_aload_n C dX11_testWord_0 rfl rfl ?_
  refine g_bipush (v := (118 : Int32)) C dX11_testWord_1 (by decide) ?_
  refine g_bipush (v := (111 : Int32)) C dX11_testWord_3 (by decide) ?_
  refine g_bipush (v := (116 : Int32)) C dX11_testWord_5 (by decide) ?_
  refine g_bipush (v := (101 : Int32)) C dX11_testWord_7 (by decide) ?_
  refine g_bipush (v := (115 : Int32)) C dX11_testWord_9 (by decide) ?_
  refine g_iconst (v := (0 : Int32)) C dX11_testWord_11 (by decide) ?_
  obtain ⟨r1, hr1, h⟩ := Option.bind_eq_some_iff.mp h
  refine call_X11_151 C dX11_testWord_12 (c_X11_spelled E hr1) (by decide) rfl ?_
  obtain ⟨r2, hr2, h⟩ := Option.bind_eq_some_iff.mp h
  refine call_X11_155 C dX11_testWord_15 (by decide) (c_X11_isWord E hr2) (by decide) rfl ?_
  refine g_if_eq (tgt := 25) C dX11_testWord_18 (by decide) h (fun h => ?_) (fun h => ?_)
  · refine g_aload_n C dX11_testWord_25 rfl rfl ?_
    obtain ⟨r3, hr3, h⟩ := Option.bind_eq_some_iff.mp h
    refine call_X11_167 C dX11_testWord_26 (by decide) (c_X11_isWeather E hr3) (by decide) rfl ?_
    refine g_if_eq (tgt := 36) C dX11_testWord_29 (by decide) h (fun h => ?_) (fun h => ?_)
    · refine g_aload_n C dX11_testWord_36 rfl rfl ?_
      obtain ⟨r4, hr4, h⟩ := Option.bind_eq_some_iff.mp h
      refine call_X11_171 C dX11_testWord_37 (by decide) (c_X11_isCrop E hr4) (by decide) rfl ?_
      refine g_if_eq (tgt := 47) C dX11_testWord_40 (by decide) h (fun h => ?_) (fun h => ?_)
      · refine g_iconst (v := (-1 : Int32)) C dX11_testWord_47 (by decide) ?_
        exact g_iret C R dX11_testWord_48 (Option.some.inj h) rfl
      · refine g_iconst (v := (2 : Int32)) C dX11_testWord_43 (by decide) ?_
        refine g_goto (tgt := 48) C dX11_testWord_44 (by decide) ?_
        exact g_iret C R dX11_testWord_48 (Option.some.inj h) rfl
    · refine g_iconst (v := (1 : Int32)) C dX11_testWord_32 (by decide) ?_
      refine g_goto (tgt := 48) C dX11_testWord_33 (by decide) ?_
      exact g_iret C R dX11_testWord_48 (Option.some.inj h) rfl
  · refine g_iconst (v := (0 : Int32)) C dX11_testWord_21 (by decide) ?_
    refine g_goto (tgt := 48) C dX11_testWord_22 (by decide) ?_
    exact g_iret C R dX11_testWord_48 (Option.some.inj h) rfl
noncomputable def f_X11_isEnd (M : Mem) : Option Int32 :=
  (f_X11_spelled (101 : Int32) (110 : Int32) (100 : Int32) (0 : Int32) (0 : Int32) (0 : Int32)).bind fun r1 =>
  (f_X11_isWord r1 M).bind fun r2 =>
  if isB r2 = true then some r2 else none
set_option maxRecDepth 20000 in
set_option maxHeartbeats 2000000 in
theorem c_X11_isEnd (E : wEnv) {M : Mem} {q : Int32} (h : f_X11_isEnd M = some q) : Mt E yX11_isEnd cX11_isEnd 1 (some .boolean) 1 [.ref (ad E 50 0)] M (some (.int q)) M := by
  unfold f_X11_isEnd at h
  refine mt_intro (own := RX11) (lv0 := [(0, .ref (ad E 50 0))]) (by decide) rfl rfl rfl (fun Y C R => ?_)
  refine g_aload_n C dX11_isEnd_0 rfl rfl ?_
  refine g_bipush (v := (101 : Int32)) C dX11_isEnd_1 (by decide) ?_
  refine g_bipush (v := (110 : Int32)) C dX11_isEnd_3 (by decide) ?_
  refine g_bipush (v := (100 : Int32)) C dX11_isEnd_5 (by decide) ?_
  refine g_iconst (v := (0 : Int32)) C dX11_isEnd_7 (by decide) ?_
  refine g_iconst (v := (0 : Int32)) C dX11_isEnd_8 (by decide) ?_
  refine g_iconst (v := (0 : Int32)) C dX11_isEnd_9 (by decide) ?_
  obtain ⟨r1, hr1, h⟩ := Option.bind_eq_some_iff.mp h
  refine call_X11_151 C dX11_isEnd_10 (c_X11_spelled E hr1) (by decide) rfl ?_
  obtain ⟨r2, hr2, h⟩ := Option.bind_eq_some_iff.mp h
  refine call_X11_155 C dX11_isEnd_13 (by decide) (c_X11_isWord E hr2) (by decide) rfl ?_
  obtain ⟨hz3, h⟩ := of_ite h
  exact g_zret C R dX11_isEnd_16 (Option.some.inj h) (isB_of hz3) rfl
noncomputable def f_X11_isKept (M : Mem) : Option Int32 :=
  (f_X11_isJuror M).bind fun r1 =>
  if r1 = 0 then
    (f_X11_isLeans M).bind fun r2 =>
    if r2 = 0 then
      (f_X11_isLess M).bind fun r3 =>
      if r3 = 0 then
        (f_X11_isStubborn M).bind fun r4 =>
        if r4 = 0 then
          (f_X11_isPrice M).bind fun r5 =>
          if r5 = 0 then
            (f_X11_isSways M).bind fun r6 =>
            if r6 = 0 then
              (f_X11_isProof M).bind fun r7 =>
              if r7 = 0 then
                (f_X11_isFollows M).bind fun r8 =>
                if r8 = 0 then
                  (f_X11_isGuilty M).bind fun r9 =>
                  if r9 = 0 then
                    (f_X11_isFree M).bind fun r10 =>
                    if r10 = 0 then
                      (f_X11_isOn M).bind fun r11 =>
                      if r11 = 0 then
                        (f_X11_isHunger M).bind fun r12 =>
                        if r12 = 0 then
                          (f_X11_isLaw M).bind fun r13 =>
                          if r13 = 0 then
                            (f_X11_lawWord M).bind fun r14 =>
                            if r14 < 0 then
                              (f_X11_stepWord M).bind fun r15 =>
                              if r15 < 0 then
                                (f_X11_testWord M).bind fun r16 =>
                                if r16 < 0 then
                                  (f_X11_isEnd M).bind fun r17 =>
                                  if r17 = 0 then
                                    some (0 : Int32)
                                  else
                                    some (1 : Int32)
                                else
                                  some (1 : Int32)
                              else
                                some (1 : Int32)
                            else
                              some (1 : Int32)
                          else
                            some (1 : Int32)
                        else
                          some (1 : Int32)
                      else
                        some (1 : Int32)
                    else
                      some (1 : Int32)
                  else
                    some (1 : Int32)
                else
                  some (1 : Int32)
              else
                some (1 : Int32)
            else
              some (1 : Int32)
          else
            some (1 : Int32)
        else
          some (1 : Int32)
      else
        some (1 : Int32)
    else
      some (1 : Int32)
  else
    some (1 : Int32)
set_option maxRecDepth 20000 in
set_option maxHeartbeats 2000000 in
theorem c_X11_isKept (E : wEnv) {M : Mem} {q : Int32} (h : f_X11_isKept M = some q) : Mt E yX11_isKept cX11_isKept 1 (some .boolean) 3 [.ref (ad E 50 0)] M (some (.int q)) M := by
  unfold f_X11_isKept at h
  refine mt_intro (own := RX11) (lv0 := [(0, .ref (ad E 50 0))]) (by decide) rfl rfl rfl (fun Y C R => ?_)
  refine g_aload_n C dX11_isKept_0 rfl rfl ?_
  obtain ⟨r1, hr1, h⟩ := Option.bind_eq_some_iff.mp h
  refine call_X11_174 C dX11_isKept_1 (by decide) (c_X11_isJuror E hr1) (by decide) rfl ?_
  refine g_if_ne (tgt := 77) C dX11_isKept_4 (by decide) h (fun h => ?_) (fun h => ?_)
  · refine g_iconst (v := (1 : Int32)) C dX11_isKept_77 (by decide) ?_
    exact g_zret C R dX11_isKept_78 (Option.some.inj h) (Or.inr rfl) rfl
  · refine g_aload_n C dX11_isKept_7 rfl rfl ?_
    obtain ⟨r2, hr2, h⟩ := Option.bind_eq_some_iff.mp h
    refine call_X11_177 C dX11_isKept_8 (by decide) (c_X11_isLeans E hr2) (by decide) rfl ?_
    refine g_if_ne (tgt := 77) C dX11_isKept_11 (by decide) h (fun h => ?_) (fun h => ?_)
    · refine g_iconst (v := (1 : Int32)) C dX11_isKept_77 (by decide) ?_
      exact g_zret C R dX11_isKept_78 (Option.some.inj h) (Or.inr rfl) rfl
    · refine g_aload_n C dX11_isKept_14 rfl rfl ?_
      obtain ⟨r3, hr3, h⟩ := Option.bind_eq_some_iff.mp h
      refine call_X11_180 C dX11_isKept_15 (by decide) (c_X11_isLess E hr3) (by decide) rfl ?_
      refine g_if_ne (tgt := 77) C dX11_isKept_18 (by decide) h (fun h => ?_) (fun h => ?_)
      · refine g_iconst (v := (1 : Int32)) C dX11_isKept_77 (by decide) ?_
        exact g_zret C R dX11_isKept_78 (Option.some.inj h) (Or.inr rfl) rfl
      · refine g_aload_n C dX11_isKept_21 rfl rfl ?_
        obtain ⟨r4, hr4, h⟩ := Option.bind_eq_some_iff.mp h
        refine call_X11_183 C dX11_isKept_22 (by decide) (c_X11_isStubborn E hr4) (by decide) rfl ?_
        refine g_if_ne (tgt := 77) C dX11_isKept_25 (by decide) h (fun h => ?_) (fun h => ?_)
        · refine g_iconst (v := (1 : Int32)) C dX11_isKept_77 (by decide) ?_
          exact g_zret C R dX11_isKept_78 (Option.some.inj h) (Or.inr rfl) rfl
        · refine g_aload_n C dX11_isKept_28 rfl rfl ?_
          obtain ⟨r5, hr5, h⟩ := Option.bind_eq_some_iff.mp h
          refine call_X11_186 C dX11_isKept_29 (by decide) (c_X11_isPrice E hr5) (by decide) rfl ?_
          refine g_if_ne (tgt := 77) C dX11_isKept_32 (by decide) h (fun h => ?_) (fun h => ?_)
          · refine g_iconst (v := (1 : Int32)) C dX11_isKept_77 (by decide) ?_
            exact g_zret C R dX11_isKept_78 (Option.some.inj h) (Or.inr rfl) rfl
          · refine g_aload_n C dX11_isKept_35 rfl rfl ?_
            obtain ⟨r6, hr6, h⟩ := Option.bind_eq_some_iff.mp h
            refine call_X11_189 C dX11_isKept_36 (by decide) (c_X11_isSways E hr6) (by decide) rfl ?_
            refine g_if_ne (tgt := 77) C dX11_isKept_39 (by decide) h (fun h => ?_) (fun h => ?_)
            · refine g_iconst (v := (1 : Int32)) C dX11_isKept_77 (by decide) ?_
              exact g_zret C R dX11_isKept_78 (Option.some.inj h) (Or.inr rfl) rfl
            · refine g_aload_n C dX11_isKept_42 rfl rfl ?_
              obtain ⟨r7, hr7, h⟩ := Option.bind_eq_some_iff.mp h
              refine call_X11_192 C dX11_isKept_43 (by decide) (c_X11_isProof E hr7) (by decide) rfl ?_
              refine g_if_ne (tgt := 77) C dX11_isKept_46 (by decide) h (fun h => ?_) (fun h => ?_)
              · refine g_iconst (v := (1 : Int32)) C dX11_isKept_77 (by decide) ?_
                exact g_zret C R dX11_isKept_78 (Option.some.inj h) (Or.inr rfl) rfl
              · refine g_aload_n C dX11_isKept_49 rfl rfl ?_
                obtain ⟨r8, hr8, h⟩ := Option.bind_eq_some_iff.mp h
                refine call_X11_195 C dX11_isKept_50 (by decide) (c_X11_isFollows E hr8) (by decide) rfl ?_
                refine g_if_ne (tgt := 77) C dX11_isKept_53 (by decide) h (fun h => ?_) (fun h => ?_)
                · refine g_iconst (v := (1 : Int32)) C dX11_isKept_77 (by decide) ?_
                  exact g_zret C R dX11_isKept_78 (Option.some.inj h) (Or.inr rfl) rfl
                · refine g_aload_n C dX11_isKept_56 rfl rfl ?_
                  obtain ⟨r9, hr9, h⟩ := Option.bind_eq_some_iff.mp h
                  refine call_X11_198 C dX11_isKept_57 (by decide) (c_X11_isGuilty E hr9) (by decide) rfl ?_
                  refine g_if_ne (tgt := 77) C dX11_isKept_60 (by decide) h (fun h => ?_) (fun h => ?_)
                  · refine g_iconst (v := (1 : Int32)) C dX11_isKept_77 (by decide) ?_
                    exact g_zret C R dX11_isKept_78 (Option.some.inj h) (Or.inr rfl) rfl
                  · refine g_aload_n C dX11_isKept_63 rfl rfl ?_
                    obtain ⟨r10, hr10, h⟩ := Option.bind_eq_some_iff.mp h
                    refine call_X11_201 C dX11_isKept_64 (by decide) (c_X11_isFree E hr10) (by decide) rfl ?_
                    refine g_if_ne (tgt := 77) C dX11_isKept_67 (by decide) h (fun h => ?_) (fun h => ?_)
                    · refine g_iconst (v := (1 : Int32)) C dX11_isKept_77 (by decide) ?_
                      exact g_zret C R dX11_isKept_78 (Option.some.inj h) (Or.inr rfl) rfl
                    · refine g_aload_n C dX11_isKept_70 rfl rfl ?_
                      obtain ⟨r11, hr11, h⟩ := Option.bind_eq_some_iff.mp h
                      refine call_X11_204 C dX11_isKept_71 (by decide) (c_X11_isOn E hr11) (by decide) rfl ?_
                      refine g_if_eq (tgt := 79) C dX11_isKept_74 (by decide) h (fun h => ?_) (fun h => ?_)
                      · refine g_aload_n C dX11_isKept_79 rfl rfl ?_
                        obtain ⟨r12, hr12, h⟩ := Option.bind_eq_some_iff.mp h
                        refine call_X11_207 C dX11_isKept_80 (by decide) (c_X11_isHunger E hr12) (by decide) rfl ?_
                        refine g_if_ne (tgt := 121) C dX11_isKept_83 (by decide) h (fun h => ?_) (fun h => ?_)
                        · refine g_iconst (v := (1 : Int32)) C dX11_isKept_121 (by decide) ?_
                          refine g_goto (tgt := 126) C dX11_isKept_122 (by decide) ?_
                          exact g_zret C R dX11_isKept_126 (Option.some.inj h) (Or.inr rfl) rfl
                        · refine g_aload_n C dX11_isKept_86 rfl rfl ?_
                          obtain ⟨r13, hr13, h⟩ := Option.bind_eq_some_iff.mp h
                          refine call_X11_210 C dX11_isKept_87 (by decide) (c_X11_isLaw E hr13) (by decide) rfl ?_
                          refine g_if_ne (tgt := 121) C dX11_isKept_90 (by decide) h (fun h => ?_) (fun h => ?_)
                          · refine g_iconst (v := (1 : Int32)) C dX11_isKept_121 (by decide) ?_
                            refine g_goto (tgt := 126) C dX11_isKept_122 (by decide) ?_
                            exact g_zret C R dX11_isKept_126 (Option.some.inj h) (Or.inr rfl) rfl
                          · refine g_aload_n C dX11_isKept_93 rfl rfl ?_
                            obtain ⟨r14, hr14, h⟩ := Option.bind_eq_some_iff.mp h
                            refine call_X11_213 C dX11_isKept_94 (by decide) (c_X11_lawWord E hr14) (by decide) rfl ?_
                            refine g_if_ge (tgt := 121) C dX11_isKept_97 (by decide) h (fun h => ?_) (fun h => ?_)
                            · refine g_iconst (v := (1 : Int32)) C dX11_isKept_121 (by decide) ?_
                              refine g_goto (tgt := 126) C dX11_isKept_122 (by decide) ?_
                              exact g_zret C R dX11_isKept_126 (Option.some.inj h) (Or.inr rfl) rfl
                            · refine g_aload_n C dX11_isKept_100 rfl rfl ?_
                              obtain ⟨r15, hr15, h⟩ := Option.bind_eq_some_iff.mp h
                              refine call_X11_217 C dX11_isKept_101 (by decide) (c_X11_stepWord E hr15) (by decide) rfl ?_
                              refine g_if_ge (tgt := 121) C dX11_isKept_104 (by decide) h (fun h => ?_) (fun h => ?_)
                              · refine g_iconst (v := (1 : Int32)) C dX11_isKept_121 (by decide) ?_
                                refine g_goto (tgt := 126) C dX11_isKept_122 (by decide) ?_
                                exact g_zret C R dX11_isKept_126 (Option.some.inj h) (Or.inr rfl) rfl
                              · refine g_aload_n C dX11_isKept_107 rfl rfl ?_
                                obtain ⟨r16, hr16, h⟩ := Option.bind_eq_some_iff.mp h
                                refine call_X11_220 C dX11_isKept_108 (by decide) (c_X11_testWord E hr16) (by decide) rfl ?_
                                refine g_if_ge (tgt := 121) C dX11_isKept_111 (by decide) h (fun h => ?_) (fun h => ?_)
                                · refine g_iconst (v := (1 : Int32)) C dX11_isKept_121 (by decide) ?_
                                  refine g_goto (tgt := 126) C dX11_isKept_122 (by decide) ?_
                                  exact g_zret C R dX11_isKept_126 (Option.some.inj h) (Or.inr rfl) rfl
                                · refine g_aload_n C dX11_isKept_114 rfl rfl ?_
                                  obtain ⟨r17, hr17, h⟩ := Option.bind_eq_some_iff.mp h
                                  refine call_X11_223 C dX11_isKept_115 (by decide) (c_X11_isEnd E hr17) (by decide) rfl ?_
                                  refine g_if_eq (tgt := 125) C dX11_isKept_118 (by decide) h (fun h => ?_) (fun h => ?_)
                                  · refine g_iconst (v := (0 : Int32)) C dX11_isKept_125 (by decide) ?_
                                    exact g_zret C R dX11_isKept_126 (Option.some.inj h) (Or.inl rfl) rfl
                                  · refine g_iconst (v := (1 : Int32)) C dX11_isKept_121 (by decide) ?_
                                    refine g_goto (tgt := 126) C dX11_isKept_122 (by decide) ?_
                                    exact g_zret C R dX11_isKept_126 (Option.some.inj h) (Or.inr rfl) rfl
                      · refine g_iconst (v := (1 : Int32)) C dX11_isKept_77 (by decide) ?_
                        exact g_zret C R dX11_isKept_78 (Option.some.inj h) (Or.inr rfl) rfl
noncomputable def f_X11_isName (M : Mem) : Option Int32 :=
  if (M.1 50 0 14) = (1 : Int32) then
    if (8 : Int32) < (M.1 50 0 18) then
      some (0 : Int32)
    else
      (f_X11_isKept M).bind fun r1 =>
      if r1 = 0 then
        some (1 : Int32)
      else
        some (0 : Int32)
  else
    some (0 : Int32)
set_option maxRecDepth 20000 in
set_option maxHeartbeats 2000000 in
theorem c_X11_isName (E : wEnv) {M : Mem} {q : Int32} (h : f_X11_isName M = some q) : Mt E yX11_isName cX11_isName 1 (some .boolean) 4 [.ref (ad E 50 0)] M (some (.int q)) M := by
  unfold f_X11_isName at h
  refine mt_intro (own := RX11) (lv0 := [(0, .ref (ad E 50 0))]) (by decide) rfl rfl rfl (fun Y C R => ?_)
  refine g_aload_n C dX11_isName_0 rfl rfl ?_
  refine get_X11_126 C dX11_isName_1 (by decide) ?_
  refine g_iconst (v := (1 : Int32)) C dX11_isName_4 (by decide) ?_
  refine g_icmp_ne (tgt := 28) C dX11_isName_5 (by decide) h (fun h => ?_) (fun h => ?_)
  · refine g_iconst (v := (0 : Int32)) C dX11_isName_28 (by decide) ?_
    exact g_zret C R dX11_isName_29 (Option.some.inj h) (Or.inl rfl) rfl
  · refine g_aload_n C dX11_isName_8 rfl rfl ?_
    refine get_X11_139 C dX11_isName_9 (by decide) ?_
    refine g_bipush (v := (8 : Int32)) C dX11_isName_12 (by decide) ?_
    refine g_icmp_gt (tgt := 28) C dX11_isName_14 (by decide) h (fun h => ?_) (fun h => ?_)
    · refine g_iconst (v := (0 : Int32)) C dX11_isName_28 (by decide) ?_
      exact g_zret C R dX11_isName_29 (Option.some.inj h) (Or.inl rfl) rfl
    · refine g_aload_n C dX11_isName_17 rfl rfl ?_
      obtain ⟨r1, hr1, h⟩ := Option.bind_eq_some_iff.mp h
      refine call_X11_226 C dX11_isName_18 (by decide) (c_X11_isKept E hr1) (by decide) rfl ?_
      refine g_if_ne (tgt := 28) C dX11_isName_21 (by decide) h (fun h => ?_) (fun h => ?_)
      · refine g_iconst (v := (0 : Int32)) C dX11_isName_28 (by decide) ?_
        exact g_zret C R dX11_isName_29 (Option.some.inj h) (Or.inl rfl) rfl
      · refine g_iconst (v := (1 : Int32)) C dX11_isName_24 (by decide) ?_
        refine g_goto (tgt := 29) C dX11_isName_25 (by decide) ?_
        exact g_zret C R dX11_isName_29 (Option.some.inj h) (Or.inr rfl) rfl
noncomputable def f_X11_fail (x1 : Int32) (x2 : Int32) (M : Mem) : Option Mem :=
  if 0 < (M.1 50 0 12) then
    some M
  else
    let M1 := sR M 50 0 (upd (M.1 50 0) 12 x1)
    let M2 := sR M1 50 0 (upd (M1.1 50 0) 13 x2)
    some M2
set_option maxRecDepth 20000 in
set_option maxHeartbeats 2000000 in
theorem c_X11_fail (E : wEnv) {x1 : Int32} {x2 : Int32} {M : Mem} {q : Mem} (h : f_X11_fail x1 x2 M = some q) : Mt E yX11_fail cX11_fail 3 none 0 [.ref (ad E 50 0), .int x1, .int x2] M none q := by
  unfold f_X11_fail at h
  refine mt_intro (own := RX11) (lv0 := [(0, .ref (ad E 50 0)), (1, .int x1), (2, .int x2)]) (by decide) rfl rfl rfl (fun Y C R => ?_)
  refine g_aload_n C dX11_fail_0 rfl rfl ?_
  refine get_X11_229 C dX11_fail_1 (by decide) ?_
  refine g_if_le (tgt := 8) C dX11_fail_4 (by decide) h (fun h => ?_) (fun h => ?_)
  · refine g_aload_n C dX11_fail_8 rfl rfl ?_
    refine g_iload_n C dX11_fail_9 rfl rfl ?_
    refine put_X11_229 C dX11_fail_10 (by decide) ?_
    refine g_aload_n C dX11_fail_13 rfl rfl ?_
    refine g_iload_n C dX11_fail_14 rfl rfl ?_
    refine put_X11_232 C dX11_fail_15 (by decide) ?_
    exact g_vret C R dX11_fail_18 (Option.some.inj h)
  · exact g_vret C R dX11_fail_7 (Option.some.inj h)
noncomputable def f_X11_wrong (M : Mem) : Option Mem :=
  if (M.1 50 0 14) = (4 : Int32) then
    (f_X11_fail (1 : Int32) (M.1 50 0 15) M).bind fun M2 =>
    some M2
  else
    (f_X11_fail (2 : Int32) (M.1 50 0 15) M).bind fun M1 =>
    some M1
set_option maxRecDepth 20000 in
set_option maxHeartbeats 2000000 in
theorem c_X11_wrong (E : wEnv) {M : Mem} {q : Mem} (h : f_X11_wrong M = some q) : Mt E yX11_wrong cX11_wrong 1 none 1 [.ref (ad E 50 0)] M none q := by
  unfold f_X11_wrong at h
  refine mt_intro (own := RX11) (lv0 := [(0, .ref (ad E 50 0))]) (by decide) rfl rfl rfl (fun Y C R => ?_)
  refine g_aload_n C dX11_wrong_0 rfl rfl ?_
  refine g_aload_n C dX11_wrong_1 rfl rfl ?_
  refine get_X11_126 C dX11_wrong_2 (by decide) ?_
  refine g_iconst (v := (4 : Int32)) C dX11_wrong_5 (by decide) ?_
  refine g_icmp_ne (tgt := 13) C dX11_wrong_6 (by decide) h (fun h => ?_) (fun h => ?_)
  · refine g_iconst (v := (2 : Int32)) C dX11_wrong_13 (by decide) ?_
    refine g_aload_n C dX11_wrong_14 rfl rfl ?_
    refine get_X11_120 C dX11_wrong_15 (by decide) ?_
    obtain ⟨M1, hr1, h⟩ := Option.bind_eq_some_iff.mp h
    refine call_X11_235 C dX11_wrong_18 (by decide) (c_X11_fail E hr1) (by decide) rfl ?_
    exact g_vret C R dX11_wrong_21 (Option.some.inj h)
  · refine g_iconst (v := (1 : Int32)) C dX11_wrong_9 (by decide) ?_
    refine g_goto (tgt := 14) C dX11_wrong_10 (by decide) ?_
    refine g_aload_n C dX11_wrong_14 rfl rfl ?_
    refine get_X11_120 C dX11_wrong_15 (by decide) ?_
    obtain ⟨M2, hr2, h⟩ := Option.bind_eq_some_iff.mp h
    refine call_X11_235 C dX11_wrong_18 (by decide) (c_X11_fail E hr2) (by decide) rfl ?_
    exact g_vret C R dX11_wrong_21 (Option.some.inj h)
noncomputable def f_X11_must (x1 : Int32) (M : Mem) : Option Mem :=
  if 0 < (M.1 50 0 12) then
    some M
  else
    if x1 = 0 then
      (f_X11_wrong M).bind fun M1 =>
      some M1
    else
      (f_X11_next M).bind fun M2 =>
      some M2
set_option maxRecDepth 20000 in
set_option maxHeartbeats 2000000 in
theorem c_X11_must (E : wEnv) {x1 : Int32} {M : Mem} {q : Mem} (h : f_X11_must x1 M = some q) : Mt E yX11_must cX11_must 2 none 2 [.ref (ad E 50 0), .int x1] M none q := by
  unfold f_X11_must at h
  refine mt_intro (own := RX11) (lv0 := [(0, .ref (ad E 50 0)), (1, .int x1)]) (by decide) rfl rfl rfl (fun Y C R => ?_)
  refine g_aload_n C dX11_must_0 rfl rfl ?_
  refine get_X11_229 C dX11_must_1 (by decide) ?_
  refine g_if_le (tgt := 8) C dX11_must_4 (by decide) h (fun h => ?_) (fun h => ?_)
  · refine g_iload_n C dX11_must_8 rfl rfl ?_
    refine g_if_eq (tgt := 19) C dX11_must_9 (by decide) h (fun h => ?_) (fun h => ?_)
    · refine g_aload_n C dX11_must_19 rfl rfl ?_
      obtain ⟨M1, hr1, h⟩ := Option.bind_eq_some_iff.mp h
      refine call_X11_242 C dX11_must_20 (by decide) (c_X11_wrong E hr1) (by decide) rfl ?_
      exact g_vret C R dX11_must_23 (Option.some.inj h)
    · refine g_aload_n C dX11_must_12 rfl rfl ?_
      obtain ⟨M2, hr2, h⟩ := Option.bind_eq_some_iff.mp h
      refine call_X11_239 C dX11_must_13 (by decide) (c_X11_next E hr2) (by decide) rfl ?_
      refine g_goto (tgt := 23) C dX11_must_16 (by decide) ?_
      exact g_vret C R dX11_must_23 (Option.some.inj h)
  · exact g_vret C R dX11_must_7 (Option.some.inj h)
noncomputable def f_X11_count_19 (x1 : Int32) (x2 : Int32) (M : Mem) : Option (Int32 × Mem) :=
  if (M.1 50 0 12) = 0 then
    (f_X11_isIn ((M.1 50 0 17).toInt64) x1.toInt64 x2.toInt64).bind fun r2 =>
    if r2 = 0 then
      (f_X11_fail (4 : Int32) (M.1 50 0 15) M).bind fun M4 =>
      if 0 < (M4.1 50 0 12) then
        some ((0 : Int32), M4)
      else
        (f_X11_next M4).bind fun M5 =>
        some ((M4.1 50 0 17), M5)
    else
      if 0 < (M.1 50 0 12) then
        some ((0 : Int32), M)
      else
        (f_X11_next M).bind fun M3 =>
        some ((M.1 50 0 17), M3)
  else
    if 0 < (M.1 50 0 12) then
      some ((0 : Int32), M)
    else
      (f_X11_next M).bind fun M1 =>
      some ((M.1 50 0 17), M1)
noncomputable def f_X11_count (x1 : Int32) (x2 : Int32) (M : Mem) : Option (Int32 × Mem) :=
  if (M.1 50 0 12) = 0 then
    if (M.1 50 0 14) = (2 : Int32) then
      f_X11_count_19 x1 x2 M
    else
      (f_X11_wrong M).bind fun M6 =>
      f_X11_count_19 x1 x2 M6
  else
    f_X11_count_19 x1 x2 M
set_option maxRecDepth 20000 in
set_option maxHeartbeats 2000000 in
theorem b_X11_count_19 {E : wEnv} {Y : YT} (C : Cx E Y cX11_count 4 RX11 2) {q : (Int32 × Mem)} (R : Rx E Y (some .int) (some (.int q.1)) q.2) {x1 : Int32} {x2 : Int32} {M : Mem} (h : f_X11_count_19 x1 x2 M = some q) : G E Y 4 M 19 [(0, .ref (ad E 50 0)), (1, .int x1), (2, .int x2)] [] := by
  unfold f_X11_count_19 at h
  refine g_aload_n C dX11_count_19 rfl rfl ?_
  refine get_X11_229 C dX11_count_20 (by decide) ?_
  refine g_if_ne (tgt := 50) C dX11_count_23 (by decide) h (fun h => ?_) (fun h => ?_)
  · refine g_aload_n C dX11_count_50 rfl rfl ?_
    refine get_X11_229 C dX11_count_51 (by decide) ?_
    refine g_if_le (tgt := 59) C dX11_count_54 (by decide) h (fun h => ?_) (fun h => ?_)
    · refine g_aload_n C dX11_count_59 rfl rfl ?_
      refine get_X11_145 C dX11_count_60 (by decide) ?_
      refine g_istore_n C dX11_count_63 rfl rfl ?_
      refine g_aload_n C dX11_count_64 rfl rfl ?_
      obtain ⟨M1, hr1, h⟩ := Option.bind_eq_some_iff.mp h
      refine call_X11_239 C dX11_count_65 (by decide) (c_X11_next E hr1) (by decide) rfl ?_
      refine g_iload_n C dX11_count_68 rfl rfl ?_
      exact g_iret C R dX11_count_69 (fst_of h) (snd_of h)
    · refine g_iconst (v := (0 : Int32)) C dX11_count_57 (by decide) ?_
      exact g_iret C R dX11_count_58 (fst_of h) (snd_of h)
  · refine g_aload_n C dX11_count_26 rfl rfl ?_
    refine get_X11_145 C dX11_count_27 (by decide) ?_
    refine g_i2l C dX11_count_30 ?_
    refine g_iload_n C dX11_count_31 rfl rfl ?_
    refine g_i2l C dX11_count_32 ?_
    refine g_iload_n C dX11_count_33 rfl rfl ?_
    refine g_i2l C dX11_count_34 ?_
    obtain ⟨r2, hr2, h⟩ := Option.bind_eq_some_iff.mp h
    refine call_X11_106 C dX11_count_35 (c_X11_isIn E hr2) (by decide) rfl ?_
    refine g_if_ne (tgt := 50) C dX11_count_38 (by decide) h (fun h => ?_) (fun h => ?_)
    · refine g_aload_n C dX11_count_50 rfl rfl ?_
      refine get_X11_229 C dX11_count_51 (by decide) ?_
      refine g_if_le (tgt := 59) C dX11_count_54 (by decide) h (fun h => ?_) (fun h => ?_)
      · refine g_aload_n C dX11_count_59 rfl rfl ?_
        refine get_X11_145 C dX11_count_60 (by decide) ?_
        refine g_istore_n C dX11_count_63 rfl rfl ?_
        refine g_aload_n C dX11_count_64 rfl rfl ?_
        obtain ⟨M3, hr3, h⟩ := Option.bind_eq_some_iff.mp h
        refine call_X11_239 C dX11_count_65 (by decide) (c_X11_next E hr3) (by decide) rfl ?_
        refine g_iload_n C dX11_count_68 rfl rfl ?_
        exact g_iret C R dX11_count_69 (fst_of h) (snd_of h)
      · refine g_iconst (v := (0 : Int32)) C dX11_count_57 (by decide) ?_
        exact g_iret C R dX11_count_58 (fst_of h) (snd_of h)
    · refine g_aload_n C dX11_count_41 rfl rfl ?_
      refine g_iconst (v := (4 : Int32)) C dX11_count_42 (by decide) ?_
      refine g_aload_n C dX11_count_43 rfl rfl ?_
      refine get_X11_120 C dX11_count_44 (by decide) ?_
      obtain ⟨M4, hr4, h⟩ := Option.bind_eq_some_iff.mp h
      refine call_X11_235 C dX11_count_47 (by decide) (c_X11_fail E hr4) (by decide) rfl ?_
      refine g_aload_n C dX11_count_50 rfl rfl ?_
      refine get_X11_229 C dX11_count_51 (by decide) ?_
      refine g_if_le (tgt := 59) C dX11_count_54 (by decide) h (fun h => ?_) (fun h => ?_)
      · refine g_aload_n C dX11_count_59 rfl rfl ?_
        refine get_X11_145 C dX11_count_60 (by decide) ?_
        refine g_istore_n C dX11_count_63 rfl rfl ?_
        refine g_aload_n C dX11_count_64 rfl rfl ?_
        obtain ⟨M5, hr5, h⟩ := Option.bind_eq_some_iff.mp h
        refine call_X11_239 C dX11_count_65 (by decide) (c_X11_next E hr5) (by decide) rfl ?_
        refine g_iload_n C dX11_count_68 rfl rfl ?_
        exact g_iret C R dX11_count_69 (fst_of h) (snd_of h)
      · refine g_iconst (v := (0 : Int32)) C dX11_count_57 (by decide) ?_
        exact g_iret C R dX11_count_58 (fst_of h) (snd_of h)
set_option maxRecDepth 20000 in
set_option maxHeartbeats 2000000 in
theorem c_X11_count (E : wEnv) {x1 : Int32} {x2 : Int32} {M : Mem} {q : (Int32 × Mem)} (h : f_X11_count x1 x2 M = some q) : Mt E yX11_count cX11_count 4 (some .int) 2 [.ref (ad E 50 0), .int x1, .int x2] M (some (.int q.1)) q.2 := by
  unfold f_X11_count at h
  refine mt_intro (own := RX11) (lv0 := [(0, .ref (ad E 50 0)), (1, .int x1), (2, .int x2)]) (by decide) rfl rfl rfl (fun Y C R => ?_)
  refine g_aload_n C dX11_count_0 rfl rfl ?_
  refine get_X11_229 C dX11_count_1 (by decide) ?_
  refine g_if_ne (tgt := 19) C dX11_count_4 (by decide) h (fun h => ?_) (fun h => ?_)
  · exact g_sub (b_X11_count_19 C R h) ⟨rfl, rfl, rfl, trivial⟩
  · refine g_aload_n C dX11_count_7 rfl rfl ?_
    refine get_X11_126 C dX11_count_8 (by decide) ?_
    refine g_iconst (v := (2 : Int32)) C dX11_count_11 (by decide) ?_
    refine g_icmp_eq (tgt := 19) C dX11_count_12 (by decide) h (fun h => ?_) (fun h => ?_)
    · exact g_sub (b_X11_count_19 C R h) ⟨rfl, rfl, rfl, trivial⟩
    · refine g_aload_n C dX11_count_15 rfl rfl ?_
      obtain ⟨M6, hr6, h⟩ := Option.bind_eq_some_iff.mp h
      refine call_X11_242 C dX11_count_16 (by decide) (c_X11_wrong E hr6) (by decide) rfl ?_
      exact g_sub (b_X11_count_19 C R h) ⟨rfl, rfl, rfl, trivial⟩
