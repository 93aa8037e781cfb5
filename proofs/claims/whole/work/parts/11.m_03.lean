noncomputable def f_X10_endDay (M : Mem) : Option (Int32 × Mem) :=
  if (M.1 20 0 5) < (9999 : Int32) then
    (f_X3_closeDay 0 0 M).bind fun q1 =>
    (f_X10_answer q1.1 q1.2).bind fun q2 =>
    some (q2.1, q2.2)
  else
    (f_X10_none (7 : Int32) M).bind fun q3 =>
    some (q3.1, q3.2)
set_option maxRecDepth 20000 in
set_option maxHeartbeats 2000000 in
theorem c_X10_endDay (E : wEnv) {M : Mem} {q : (Int32 × Mem)} (h : f_X10_endDay M = some q) : Mt E yX10_endDay cX10_endDay 1 (some .int) 4 [.ref (ad E 0 0)] M (some (.int q.1)) q.2 := by
  unfold f_X10_endDay at h
  refine mt_intro (own := RX10) (lv0 := [(0, .ref (ad E 0 0))]) (by decide) rfl rfl rfl (fun Y C R => ?_)
  refine g_aload_n C dX10_endDay_0 rfl rfl ?_
  refine get_X10_19 C dX10_endDay_1 (by decide) ?_
  refine get_X10_182 C dX10_endDay_4 (by decide) ?_
  refine get_X10_216 C dX10_endDay_7 (by decide) ?_
  refine g_sipush (v := (9999 : Int32)) C dX10_endDay_10 (by decide) ?_
  refine g_icmp_lt (tgt := 23) C dX10_endDay_13 (by decide) h (fun h => ?_) (fun h => ?_)
  · refine g_aload_n C dX10_endDay_23 rfl rfl ?_
    refine g_aload_n C dX10_endDay_24 rfl rfl ?_
    refine get_X10_19 C dX10_endDay_25 (by decide) ?_
    refine get_X10_182 C dX10_endDay_28 (by decide) ?_
    refine g_aload_n C dX10_endDay_31 rfl rfl ?_
    refine get_X10_19 C dX10_endDay_32 (by decide) ?_
    refine get_X10_175 C dX10_endDay_35 (by decide) ?_
    obtain ⟨q1, hr1, h⟩ := Option.bind_eq_some_iff.mp h
    refine call_X10_289 C dX10_endDay_38 (by decide) (c_X3_closeDay E (by decide) (by decide) hr1) (by decide) rfl ?_
    obtain ⟨q2, hr2, h⟩ := Option.bind_eq_some_iff.mp h
    refine call_X10_197 C dX10_endDay_41 (by decide) (c_X10_answer E hr2) (by decide) rfl ?_
    exact g_iret C R dX10_endDay_44 (fst_of h) (snd_of h)
  · refine g_aload_n C dX10_endDay_16 rfl rfl ?_
    refine g_bipush (v := (7 : Int32)) C dX10_endDay_17 (by decide) ?_
    obtain ⟨q3, hr3, h⟩ := Option.bind_eq_some_iff.mp h
    refine call_X10_133 C dX10_endDay_19 (by decide) (c_X10_none E hr3) (by decide) rfl ?_
    exact g_iret C R dX10_endDay_22 (fst_of h) (snd_of h)
noncomputable def f_X10_strike (x1 : Int32) (M : Mem) : Option (Int32 × Mem) :=
  (f_X10_isNo (0 : Int32) x1 M).bind fun r1 =>
  if r1 = 0 then
    (f_X3_isSeated 0 x1 M).bind fun r2 =>
    if r2 = 0 then
      (f_X10_refuse (9 : Int32) M).bind fun q6 =>
      if isB q6.1 = true then some (q6.1, q6.2) else none
    else
      (f_X3_unseat 0 x1 M).bind fun M3 =>
      (f_X10_agree M3).bind fun q4 =>
      if isB q4.1 = true then some (q4.1, q4.2) else none
  else
    (f_X10_refuse (2 : Int32) M).bind fun q8 =>
    if isB q8.1 = true then some (q8.1, q8.2) else none
set_option maxRecDepth 20000 in
set_option maxHeartbeats 2000000 in
theorem c_X10_strike (E : wEnv) {x1 : Int32} {M : Mem} {q : (Int32 × Mem)} (h : f_X10_strike x1 M = some q) : Mt E yX10_strike cX10_strike 2 (some .boolean) 1 [.ref (ad E 0 0), .int x1] M (some (.int q.1)) q.2 := by
  unfold f_X10_strike at h
  refine mt_intro (own := RX10) (lv0 := [(0, .ref (ad E 0 0)), (1, .int x1)]) (by decide) rfl rfl rfl (fun Y C R => ?_)
  refine g_aload_n C dX10_strike_0 rfl rfl ?_
  refine g_iconst (v := (0 : Int32)) C dX10_strike_1 (by decide) ?_
  refine g_iload_n C dX10_strike_2 rfl rfl ?_
  obtain ⟨r1, hr1, h⟩ := Option.bind_eq_some_iff.mp h
  refine call_X10_237 C dX10_strike_3 (by decide) (c_X10_isNo E hr1) (by decide) rfl ?_
  refine g_if_eq (tgt := 15) C dX10_strike_6 (by decide) h (fun h => ?_) (fun h => ?_)
  · refine g_aload_n C dX10_strike_15 rfl rfl ?_
    refine get_X10_19 C dX10_strike_16 (by decide) ?_
    refine get_X10_182 C dX10_strike_19 (by decide) ?_
    refine g_iload_n C dX10_strike_22 rfl rfl ?_
    obtain ⟨r2, hr2, h⟩ := Option.bind_eq_some_iff.mp h
    refine call_X10_293 C dX10_strike_23 (by decide) (c_X3_isSeated E (by decide) hr2) (by decide) rfl ?_
    refine g_if_ne (tgt := 36) C dX10_strike_26 (by decide) h (fun h => ?_) (fun h => ?_)
    · refine g_aload_n C dX10_strike_36 rfl rfl ?_
      refine get_X10_19 C dX10_strike_37 (by decide) ?_
      refine get_X10_182 C dX10_strike_40 (by decide) ?_
      refine g_iload_n C dX10_strike_43 rfl rfl ?_
      obtain ⟨M3, hr3, h⟩ := Option.bind_eq_some_iff.mp h
      refine call_X10_296 C dX10_strike_44 (by decide) (c_X3_unseat E (by decide) hr3) (by decide) rfl ?_
      refine g_aload_n C dX10_strike_47 rfl rfl ?_
      obtain ⟨q4, hr4, h⟩ := Option.bind_eq_some_iff.mp h
      refine call_X10_121 C dX10_strike_48 (by decide) (c_X10_agree E hr4) (by decide) rfl ?_
      obtain ⟨hz5, h⟩ := of_ite h
      exact g_zret C R dX10_strike_51 (fst_of h) (isB_of hz5) (snd_of h)
    · refine g_aload_n C dX10_strike_29 rfl rfl ?_
      refine g_bipush (v := (9 : Int32)) C dX10_strike_30 (by decide) ?_
      obtain ⟨q6, hr6, h⟩ := Option.bind_eq_some_iff.mp h
      refine call_X10_114 C dX10_strike_32 (by decide) (c_X10_refuse E hr6) (by decide) rfl ?_
      obtain ⟨hz7, h⟩ := of_ite h
      exact g_zret C R dX10_strike_35 (fst_of h) (isB_of hz7) (snd_of h)
  · refine g_aload_n C dX10_strike_9 rfl rfl ?_
    refine g_iconst (v := (2 : Int32)) C dX10_strike_10 (by decide) ?_
    obtain ⟨q8, hr8, h⟩ := Option.bind_eq_some_iff.mp h
    refine call_X10_114 C dX10_strike_11 (by decide) (c_X10_refuse E hr8) (by decide) rfl ?_
    obtain ⟨hz9, h⟩ := of_ite h
    exact g_zret C R dX10_strike_14 (fst_of h) (isB_of hz9) (snd_of h)
noncomputable def f_X10_seat (x1 : Int32) (M : Mem) : Option (Int32 × Mem) :=
  (f_X10_isNo (0 : Int32) x1 M).bind fun r1 =>
  if r1 = 0 then
    (f_X3_isSeated 0 x1 M).bind fun r2 =>
    if r2 = 0 then
      (f_X3_reseat 0 x1 M).bind fun M3 =>
      (f_X10_agree M3).bind fun q4 =>
      if isB q4.1 = true then some (q4.1, q4.2) else none
    else
      (f_X10_refuse (9 : Int32) M).bind fun q6 =>
      if isB q6.1 = true then some (q6.1, q6.2) else none
  else
    (f_X10_refuse (2 : Int32) M).bind fun q8 =>
    if isB q8.1 = true then some (q8.1, q8.2) else none
set_option maxRecDepth 20000 in
set_option maxHeartbeats 2000000 in
theorem c_X10_seat (E : wEnv) {x1 : Int32} {M : Mem} {q : (Int32 × Mem)} (h : f_X10_seat x1 M = some q) : Mt E yX10_seat cX10_seat 2 (some .boolean) 1 [.ref (ad E 0 0), .int x1] M (some (.int q.1)) q.2 := by
  unfold f_X10_seat at h
  refine mt_intro (own := RX10) (lv0 := [(0, .ref (ad E 0 0)), (1, .int x1)]) (by decide) rfl rfl rfl (fun Y C R => ?_)
  refine g_aload_n C dX10_seat_0 rfl rfl ?_
  refine g_iconst (v := (0 : Int32)) C dX10_seat_1 (by decide) ?_
  refine g_iload_n C dX10_seat_2 rfl rfl ?_
  obtain ⟨r1, hr1, h⟩ := Option.bind_eq_some_iff.mp h
  refine call_X10_237 C dX10_seat_3 (by decide) (c_X10_isNo E hr1) (by decide) rfl ?_
  refine g_if_eq (tgt := 15) C dX10_seat_6 (by decide) h (fun h => ?_) (fun h => ?_)
  · refine g_aload_n C dX10_seat_15 rfl rfl ?_
    refine get_X10_19 C dX10_seat_16 (by decide) ?_
    refine get_X10_182 C dX10_seat_19 (by decide) ?_
    refine g_iload_n C dX10_seat_22 rfl rfl ?_
    obtain ⟨r2, hr2, h⟩ := Option.bind_eq_some_iff.mp h
    refine call_X10_293 C dX10_seat_23 (by decide) (c_X3_isSeated E (by decide) hr2) (by decide) rfl ?_
    refine g_if_eq (tgt := 36) C dX10_seat_26 (by decide) h (fun h => ?_) (fun h => ?_)
    · refine g_aload_n C dX10_seat_36 rfl rfl ?_
      refine get_X10_19 C dX10_seat_37 (by decide) ?_
      refine get_X10_182 C dX10_seat_40 (by decide) ?_
      refine g_iload_n C dX10_seat_43 rfl rfl ?_
      obtain ⟨M3, hr3, h⟩ := Option.bind_eq_some_iff.mp h
      refine call_X10_299 C dX10_seat_44 (by decide) (c_X3_reseat E (by decide) hr3) (by decide) rfl ?_
      refine g_aload_n C dX10_seat_47 rfl rfl ?_
      obtain ⟨q4, hr4, h⟩ := Option.bind_eq_some_iff.mp h
      refine call_X10_121 C dX10_seat_48 (by decide) (c_X10_agree E hr4) (by decide) rfl ?_
      obtain ⟨hz5, h⟩ := of_ite h
      exact g_zret C R dX10_seat_51 (fst_of h) (isB_of hz5) (snd_of h)
    · refine g_aload_n C dX10_seat_29 rfl rfl ?_
      refine g_bipush (v := (9 : Int32)) C dX10_seat_30 (by decide) ?_
      obtain ⟨q6, hr6, h⟩ := Option.bind_eq_some_iff.mp h
      refine call_X10_114 C dX10_seat_32 (by decide) (c_X10_refuse E hr6) (by decide) rfl ?_
      obtain ⟨hz7, h⟩ := of_ite h
      exact g_zret C R dX10_seat_35 (fst_of h) (isB_of hz7) (snd_of h)
  · refine g_aload_n C dX10_seat_9 rfl rfl ?_
    refine g_iconst (v := (2 : Int32)) C dX10_seat_10 (by decide) ?_
    obtain ⟨q8, hr8, h⟩ := Option.bind_eq_some_iff.mp h
    refine call_X10_114 C dX10_seat_11 (by decide) (c_X10_refuse E hr8) (by decide) rfl ?_
    obtain ⟨hz9, h⟩ := of_ite h
    exact g_zret C R dX10_seat_14 (fst_of h) (isB_of hz9) (snd_of h)
noncomputable def f_X10_isNoSide (x0 : Int32) : Option Int32 :=
  if x0 = (1 : Int32) then
    some (0 : Int32)
  else
    if x0 = (-1 : Int32) then
      some (0 : Int32)
    else
      some (1 : Int32)
set_option maxRecDepth 20000 in
set_option maxHeartbeats 2000000 in
theorem c_X10_isNoSide (E : wEnv) {x0 : Int32} {M : Mem} {q : Int32} (h : f_X10_isNoSide x0 = some q) : Mt E yX10_isNoSide cX10_isNoSide 1 (some .boolean) 0 [.int x0] M (some (.int q)) M := by
  unfold f_X10_isNoSide at h
  refine mt_intro (own := RX10) (lv0 := [(0, .int x0)]) (by decide) rfl rfl rfl (fun Y C R => ?_)
  refine g_iload_n C dX10_isNoSide_0 rfl rfl ?_
  refine g_iconst (v := (1 : Int32)) C dX10_isNoSide_1 (by decide) ?_
  refine g_icmp_eq (tgt := 14) C dX10_isNoSide_2 (by decide) h (fun h => ?_) (fun h => ?_)
  · refine g_iconst (v := (0 : Int32)) C dX10_isNoSide_14 (by decide) ?_
    exact g_zret C R dX10_isNoSide_15 (Option.some.inj h) (Or.inl rfl) rfl
  · refine g_iload_n C dX10_isNoSide_5 rfl rfl ?_
    refine g_iconst (v := (-1 : Int32)) C dX10_isNoSide_6 (by decide) ?_
    refine g_icmp_eq (tgt := 14) C dX10_isNoSide_7 (by decide) h (fun h => ?_) (fun h => ?_)
    · refine g_iconst (v := (0 : Int32)) C dX10_isNoSide_14 (by decide) ?_
      exact g_zret C R dX10_isNoSide_15 (Option.some.inj h) (Or.inl rfl) rfl
    · refine g_iconst (v := (1 : Int32)) C dX10_isNoSide_10 (by decide) ?_
      refine g_goto (tgt := 15) C dX10_isNoSide_11 (by decide) ?_
      exact g_zret C R dX10_isNoSide_15 (Option.some.inj h) (Or.inr rfl) rfl
noncomputable def f_X10_bribe (x1 : Int32) (x2 : Int32) (M : Mem) : Option (Int32 × Mem) :=
  (f_X10_isNo (0 : Int32) x1 M).bind fun r1 =>
  if r1 = 0 then
    (f_X10_isNoSide x2).bind fun r2 =>
    if r2 = 0 then
      (f_X3_canPay 0 0 x1 M).bind fun r3 =>
      if r3 = 0 then
        (f_X10_none (7 : Int32) M).bind fun q8 =>
        some (q8.1, q8.2)
      else
        (f_X3_isSeated 0 x1 M).bind fun r4 =>
        if r4 = 0 then
          (f_X10_none (9 : Int32) M).bind fun q7 =>
          some (q7.1, q7.2)
        else
          (f_X3_buy 0 0 x1 x2 M).bind fun M5 =>
          (f_X10_answer (M5.1 20 0 7) M5).bind fun q6 =>
          some (q6.1, q6.2)
    else
      (f_X10_none (5 : Int32) M).bind fun q9 =>
      some (q9.1, q9.2)
  else
    (f_X10_none (2 : Int32) M).bind fun q10 =>
    some (q10.1, q10.2)
set_option maxRecDepth 20000 in
set_option maxHeartbeats 2000000 in
theorem c_X10_bribe (E : wEnv) {x1 : Int32} {x2 : Int32} {M : Mem} {q : (Int32 × Mem)} (h : f_X10_bribe x1 x2 M = some q) : Mt E yX10_bribe cX10_bribe 3 (some .int) 1 [.ref (ad E 0 0), .int x1, .int x2] M (some (.int q.1)) q.2 := by
  unfold f_X10_bribe at h
  refine mt_intro (own := RX10) (lv0 := [(0, .ref (ad E 0 0)), (1, .int x1), (2, .int x2)]) (by decide) rfl rfl rfl (fun Y C R => ?_)
  refine g_aload_n C dX10_bribe_0 rfl rfl ?_
  refine g_iconst (v := (0 : Int32)) C dX10_bribe_1 (by decide) ?_
  refine g_iload_n C dX10_bribe_2 rfl rfl ?_
  obtain ⟨r1, hr1, h⟩ := Option.bind_eq_some_iff.mp h
  refine call_X10_237 C dX10_bribe_3 (by decide) (c_X10_isNo E hr1) (by decide) rfl ?_
  refine g_if_eq (tgt := 15) C dX10_bribe_6 (by decide) h (fun h => ?_) (fun h => ?_)
  · refine g_iload_n C dX10_bribe_15 rfl rfl ?_
    obtain ⟨r2, hr2, h⟩ := Option.bind_eq_some_iff.mp h
    refine call_X10_302 C dX10_bribe_16 (c_X10_isNoSide E hr2) (by decide) rfl ?_
    refine g_if_eq (tgt := 28) C dX10_bribe_19 (by decide) h (fun h => ?_) (fun h => ?_)
    · refine g_aload_n C dX10_bribe_28 rfl rfl ?_
      refine get_X10_19 C dX10_bribe_29 (by decide) ?_
      refine get_X10_182 C dX10_bribe_32 (by decide) ?_
      refine g_aload_n C dX10_bribe_35 rfl rfl ?_
      refine get_X10_19 C dX10_bribe_36 (by decide) ?_
      refine get_X10_175 C dX10_bribe_39 (by decide) ?_
      refine g_iload_n C dX10_bribe_42 rfl rfl ?_
      obtain ⟨r3, hr3, h⟩ := Option.bind_eq_some_iff.mp h
      refine call_X10_305 C dX10_bribe_43 (by decide) (c_X3_canPay E (by decide) (by decide) hr3) (by decide) rfl ?_
      refine g_if_ne (tgt := 56) C dX10_bribe_46 (by decide) h (fun h => ?_) (fun h => ?_)
      · refine g_aload_n C dX10_bribe_56 rfl rfl ?_
        refine get_X10_19 C dX10_bribe_57 (by decide) ?_
        refine get_X10_182 C dX10_bribe_60 (by decide) ?_
        refine g_iload_n C dX10_bribe_63 rfl rfl ?_
        obtain ⟨r4, hr4, h⟩ := Option.bind_eq_some_iff.mp h
        refine call_X10_293 C dX10_bribe_64 (by decide) (c_X3_isSeated E (by decide) hr4) (by decide) rfl ?_
        refine g_if_ne (tgt := 77) C dX10_bribe_67 (by decide) h (fun h => ?_) (fun h => ?_)
        · refine g_aload_n C dX10_bribe_77 rfl rfl ?_
          refine get_X10_19 C dX10_bribe_78 (by decide) ?_
          refine get_X10_182 C dX10_bribe_81 (by decide) ?_
          refine g_aload_n C dX10_bribe_84 rfl rfl ?_
          refine get_X10_19 C dX10_bribe_85 (by decide) ?_
          refine get_X10_175 C dX10_bribe_88 (by decide) ?_
          refine g_iload_n C dX10_bribe_91 rfl rfl ?_
          refine g_iload_n C dX10_bribe_92 rfl rfl ?_
          obtain ⟨M5, hr5, h⟩ := Option.bind_eq_some_iff.mp h
          refine call_X10_309 C dX10_bribe_93 (by decide) (c_X3_buy E (by decide) (by decide) hr5) (by decide) rfl ?_
          refine g_aload_n C dX10_bribe_96 rfl rfl ?_
          refine g_aload_n C dX10_bribe_97 rfl rfl ?_
          refine get_X10_19 C dX10_bribe_98 (by decide) ?_
          refine get_X10_182 C dX10_bribe_101 (by decide) ?_
          refine get_X10_228 C dX10_bribe_104 (by decide) ?_
          obtain ⟨q6, hr6, h⟩ := Option.bind_eq_some_iff.mp h
          refine call_X10_197 C dX10_bribe_107 (by decide) (c_X10_answer E hr6) (by decide) rfl ?_
          exact g_iret C R dX10_bribe_110 (fst_of h) (snd_of h)
        · refine g_aload_n C dX10_bribe_70 rfl rfl ?_
          refine g_bipush (v := (9 : Int32)) C dX10_bribe_71 (by decide) ?_
          obtain ⟨q7, hr7, h⟩ := Option.bind_eq_some_iff.mp h
          refine call_X10_133 C dX10_bribe_73 (by decide) (c_X10_none E hr7) (by decide) rfl ?_
          exact g_iret C R dX10_bribe_76 (fst_of h) (snd_of h)
      · refine g_aload_n C dX10_bribe_49 rfl rfl ?_
        refine g_bipush (v := (7 : Int32)) C dX10_bribe_50 (by decide) ?_
        obtain ⟨q8, hr8, h⟩ := Option.bind_eq_some_iff.mp h
        refine call_X10_133 C dX10_bribe_52 (by decide) (c_X10_none E hr8) (by decide) rfl ?_
        exact g_iret C R dX10_bribe_55 (fst_of h) (snd_of h)
    · refine g_aload_n C dX10_bribe_22 rfl rfl ?_
      refine g_iconst (v := (5 : Int32)) C dX10_bribe_23 (by decide) ?_
      obtain ⟨q9, hr9, h⟩ := Option.bind_eq_some_iff.mp h
      refine call_X10_133 C dX10_bribe_24 (by decide) (c_X10_none E hr9) (by decide) rfl ?_
      exact g_iret C R dX10_bribe_27 (fst_of h) (snd_of h)
  · refine g_aload_n C dX10_bribe_9 rfl rfl ?_
    refine g_iconst (v := (2 : Int32)) C dX10_bribe_10 (by decide) ?_
    obtain ⟨q10, hr10, h⟩ := Option.bind_eq_some_iff.mp h
    refine call_X10_133 C dX10_bribe_11 (by decide) (c_X10_none E hr10) (by decide) rfl ?_
    exact g_iret C R dX10_bribe_14 (fst_of h) (snd_of h)
noncomputable def f_X10_lean (x1 : Int32) (x2 : Int32) (M : Mem) : Option (Int32 × Mem) :=
  (f_X10_isNo (0 : Int32) x1 M).bind fun r1 =>
  if r1 = 0 then
    if x2 < (-99 : Int32) then
      (f_X10_refuse (5 : Int32) M).bind fun q2 =>
      if isB q2.1 = true then some (q2.1, q2.2) else none
    else
      if (99 : Int32) < x2 then
        (f_X10_refuse (5 : Int32) M).bind fun q8 =>
        if isB q8.1 = true then some (q8.1, q8.2) else none
      else
        if inb x1 10 = true then
         let M5 := sR M 21 0 (upd (M.1 21 0) x1.toNatClampNeg x2)
         (f_X10_agree M5).bind fun q6 =>
         if isB q6.1 = true then some (q6.1, q6.2) else none
        else none
  else
    (f_X10_refuse (2 : Int32) M).bind fun q10 =>
    if isB q10.1 = true then some (q10.1, q10.2) else none
set_option maxRecDepth 20000 in
set_option maxHeartbeats 2000000 in
theorem c_X10_lean (E : wEnv) {x1 : Int32} {x2 : Int32} {M : Mem} {q : (Int32 × Mem)} (h : f_X10_lean x1 x2 M = some q) : Mt E yX10_lean cX10_lean 3 (some .boolean) 1 [.ref (ad E 0 0), .int x1, .int x2] M (some (.int q.1)) q.2 := by
  unfold f_X10_lean at h
  refine mt_intro (own := RX10) (lv0 := [(0, .ref (ad E 0 0)), (1, .int x1), (2, .int x2)]) (by decide) rfl rfl rfl (fun Y C R => ?_)
  refine g_aload_n C dX10_lean_0 rfl rfl ?_
  refine g_iconst (v := (0 : Int32)) C dX10_lean_1 (by decide) ?_
  refine g_iload_n C dX10_lean_2 rfl rfl ?_
  obtain ⟨r1, hr1, h⟩ := Option.bind_eq_some_iff.mp h
  refine call_X10_237 C dX10_lean_3 (by decide) (c_X10_isNo E hr1) (by decide) rfl ?_
  refine g_if_eq (tgt := 15) C dX10_lean_6 (by decide) h (fun h => ?_) (fun h => ?_)
  · refine g_iload_n C dX10_lean_15 rfl rfl ?_
    refine g_bipush (v := (-99 : Int32)) C dX10_lean_16 (by decide) ?_
    refine g_icmp_lt (tgt := 27) C dX10_lean_18 (by decide) h (fun h => ?_) (fun h => ?_)
    · refine g_aload_n C dX10_lean_27 rfl rfl ?_
      refine g_iconst (v := (5 : Int32)) C dX10_lean_28 (by decide) ?_
      obtain ⟨q2, hr2, h⟩ := Option.bind_eq_some_iff.mp h
      refine call_X10_114 C dX10_lean_29 (by decide) (c_X10_refuse E hr2) (by decide) rfl ?_
      obtain ⟨hz3, h⟩ := of_ite h
      exact g_zret C R dX10_lean_32 (fst_of h) (isB_of hz3) (snd_of h)
    · refine g_iload_n C dX10_lean_21 rfl rfl ?_
      refine g_bipush (v := (99 : Int32)) C dX10_lean_22 (by decide) ?_
      refine g_icmp_le (tgt := 33) C dX10_lean_24 (by decide) h (fun h => ?_) (fun h => ?_)
      · refine g_aload_n C dX10_lean_33 rfl rfl ?_
        refine get_X10_19 C dX10_lean_34 (by decide) ?_
        refine get_X10_182 C dX10_lean_37 (by decide) ?_
        refine get_X10_241 C dX10_lean_40 (by decide) ?_
        refine g_iload_n C dX10_lean_43 rfl rfl ?_
        refine g_iload_n C dX10_lean_44 rfl rfl ?_
        obtain ⟨hb4, h⟩ := of_ite h
        refine st_21 (j := _) C dX10_lean_45 (by decide) hb4 rfl ?_
        refine g_aload_n C dX10_lean_46 rfl rfl ?_
        obtain ⟨q6, hr6, h⟩ := Option.bind_eq_some_iff.mp h
        refine call_X10_121 C dX10_lean_47 (by decide) (c_X10_agree E hr6) (by decide) rfl ?_
        obtain ⟨hz7, h⟩ := of_ite h
        exact g_zret C R dX10_lean_50 (fst_of h) (isB_of hz7) (snd_of h)
      · refine g_aload_n C dX10_lean_27 rfl rfl ?_
        refine g_iconst (v := (5 : Int32)) C dX10_lean_28 (by decide) ?_
        obtain ⟨q8, hr8, h⟩ := Option.bind_eq_some_iff.mp h
        refine call_X10_114 C dX10_lean_29 (by decide) (c_X10_refuse E hr8) (by decide) rfl ?_
        obtain ⟨hz9, h⟩ := of_ite h
        exact g_zret C R dX10_lean_32 (fst_of h) (isB_of hz9) (snd_of h)
  · refine g_aload_n C dX10_lean_9 rfl rfl ?_
    refine g_iconst (v := (2 : Int32)) C dX10_lean_10 (by decide) ?_
    obtain ⟨q10, hr10, h⟩ := Option.bind_eq_some_iff.mp h
    refine call_X10_114 C dX10_lean_11 (by decide) (c_X10_refuse E hr10) (by decide) rfl ?_
    obtain ⟨hz11, h⟩ := of_ite h
    exact g_zret C R dX10_lean_14 (fst_of h) (isB_of hz11) (snd_of h)
noncomputable def f_X10_votes (x1 : Int32) (M : Mem) : Option (Int32 × Mem) :=
  if x1 < 0 then
    (f_X10_none (5 : Int32) M).bind fun q1 =>
    some (q1.1, q1.2)
  else
    if (1 : Int32) < x1 then
      (f_X10_none (5 : Int32) M).bind fun q6 =>
      some (q6.1, q6.2)
    else
      (f_X3_guiltyVotes 0 M).bind fun r2 =>
      if x1 = 0 then
        (f_X10_answer r2 M).bind fun q5 =>
        some (q5.1, q5.2)
      else
        (f_X3_seatedCount 0 M).bind fun r3 =>
        (f_X10_answer (r3 - r2) M).bind fun q4 =>
        some (q4.1, q4.2)
set_option maxRecDepth 20000 in
set_option maxHeartbeats 2000000 in
theorem c_X10_votes (E : wEnv) {x1 : Int32} {M : Mem} {q : (Int32 × Mem)} (h : f_X10_votes x1 M = some q) : Mt E yX10_votes cX10_votes 3 (some .int) 2 [.ref (ad E 0 0), .int x1] M (some (.int q.1)) q.2 := by
  unfold f_X10_votes at h
  refine mt_intro (own := RX10) (lv0 := [(0, .ref (ad E 0 0)), (1, .int x1)]) (by decide) rfl rfl rfl (fun Y C R => ?_)
  refine g_iload_n C dX10_votes_0 rfl rfl ?_
  refine g_if_lt (tgt := 9) C dX10_votes_1 (by decide) h (fun h => ?_) (fun h => ?_)
  · refine g_aload_n C dX10_votes_9 rfl rfl ?_
    refine g_iconst (v := (5 : Int32)) C dX10_votes_10 (by decide) ?_
    obtain ⟨q1, hr1, h⟩ := Option.bind_eq_some_iff.mp h
    refine call_X10_133 C dX10_votes_11 (by decide) (c_X10_none E hr1) (by decide) rfl ?_
    exact g_iret C R dX10_votes_14 (fst_of h) (snd_of h)
  · refine g_iload_n C dX10_votes_4 rfl rfl ?_
    refine g_iconst (v := (1 : Int32)) C dX10_votes_5 (by decide) ?_
    refine g_icmp_le (tgt := 15) C dX10_votes_6 (by decide) h (fun h => ?_) (fun h => ?_)
    · refine g_aload_n C dX10_votes_15 rfl rfl ?_
      refine get_X10_19 C dX10_votes_16 (by decide) ?_
      refine get_X10_182 C dX10_votes_19 (by decide) ?_
      obtain ⟨r2, hr2, h⟩ := Option.bind_eq_some_iff.mp h
      refine call_X10_313 C dX10_votes_22 (by decide) (c_X3_guiltyVotes E (by decide) hr2) (by decide) rfl ?_
      refine g_istore_n C dX10_votes_25 rfl rfl ?_
      refine g_aload_n C dX10_votes_26 rfl rfl ?_
      refine g_iload_n C dX10_votes_27 rfl rfl ?_
      refine g_if_ne (tgt := 35) C dX10_votes_28 (by decide) h (fun h => ?_) (fun h => ?_)
      · refine g_aload_n C dX10_votes_35 rfl rfl ?_
        refine get_X10_19 C dX10_votes_36 (by decide) ?_
        refine get_X10_182 C dX10_votes_39 (by decide) ?_
        obtain ⟨r3, hr3, h⟩ := Option.bind_eq_some_iff.mp h
        refine call_X10_317 C dX10_votes_42 (by decide) (c_X3_seatedCount E (by decide) hr3) (by decide) rfl ?_
        refine g_iload_n C dX10_votes_45 rfl rfl ?_
        refine g_isub C dX10_votes_46 ?_
        obtain ⟨q4, hr4, h⟩ := Option.bind_eq_some_iff.mp h
        refine call_X10_197 C dX10_votes_47 (by decide) (c_X10_answer E hr4) (by decide) rfl ?_
        exact g_iret C R dX10_votes_50 (fst_of h) (snd_of h)
      · refine g_iload_n C dX10_votes_31 rfl rfl ?_
        refine g_goto (tgt := 47) C dX10_votes_32 (by decide) ?_
        obtain ⟨q5, hr5, h⟩ := Option.bind_eq_some_iff.mp h
        refine call_X10_197 C dX10_votes_47 (by decide) (c_X10_answer E hr5) (by decide) rfl ?_
        exact g_iret C R dX10_votes_50 (fst_of h) (snd_of h)
    · refine g_aload_n C dX10_votes_9 rfl rfl ?_
      refine g_iconst (v := (5 : Int32)) C dX10_votes_10 (by decide) ?_
      obtain ⟨q6, hr6, h⟩ := Option.bind_eq_some_iff.mp h
      refine call_X10_133 C dX10_votes_11 (by decide) (c_X10_none E hr6) (by decide) rfl ?_
      exact g_iret C R dX10_votes_14 (fst_of h) (snd_of h)
noncomputable def f_X10_verdict (M : Mem) : Option (Int32 × Mem) :=
  (f_X3_ruling 0 (M.1 8 0 12) M).bind fun r1 =>
  (f_X10_answer r1 M).bind fun q2 =>
  some (q2.1, q2.2)
set_option maxRecDepth 20000 in
set_option maxHeartbeats 2000000 in
theorem c_X10_verdict (E : wEnv) {M : Mem} {q : (Int32 × Mem)} (h : f_X10_verdict M = some q) : Mt E yX10_verdict cX10_verdict 1 (some .int) 3 [.ref (ad E 0 0)] M (some (.int q.1)) q.2 := by
  unfold f_X10_verdict at h
  refine mt_intro (own := RX10) (lv0 := [(0, .ref (ad E 0 0))]) (by decide) rfl rfl rfl (fun Y C R => ?_)
  refine g_aload_n C dX10_verdict_0 rfl rfl ?_
  refine g_aload_n C dX10_verdict_1 rfl rfl ?_
  refine get_X10_19 C dX10_verdict_2 (by decide) ?_
  refine get_X10_182 C dX10_verdict_5 (by decide) ?_
  refine g_aload_n C dX10_verdict_8 rfl rfl ?_
  refine get_X10_19 C dX10_verdict_9 (by decide) ?_
  refine get_X10_175 C dX10_verdict_12 (by decide) ?_
  refine get_X10_213 C dX10_verdict_15 (by decide) ?_
  obtain ⟨r1, hr1, h⟩ := Option.bind_eq_some_iff.mp h
  refine call_X10_286 C dX10_verdict_18 (by decide) (c_X3_ruling E (by decide) hr1) (by decide) rfl ?_
  obtain ⟨q2, hr2, h⟩ := Option.bind_eq_some_iff.mp h
  refine call_X10_197 C dX10_verdict_21 (by decide) (c_X10_answer E hr2) (by decide) rfl ?_
  exact g_iret C R dX10_verdict_24 (fst_of h) (snd_of h)
noncomputable def f_X10_verdictBy (x1 : Int32) (M : Mem) : Option (Int32 × Mem) :=
  if x1 < 0 then
    (f_X10_none (5 : Int32) M).bind fun q1 =>
    some (q1.1, q1.2)
  else
    if (2 : Int32) < x1 then
      (f_X10_none (5 : Int32) M).bind fun q4 =>
      some (q4.1, q4.2)
    else
      (f_X3_ruling 0 x1 M).bind fun r2 =>
      (f_X10_answer r2 M).bind fun q3 =>
      some (q3.1, q3.2)
set_option maxRecDepth 20000 in
set_option maxHeartbeats 2000000 in
theorem c_X10_verdictBy (E : wEnv) {x1 : Int32} {M : Mem} {q : (Int32 × Mem)} (h : f_X10_verdictBy x1 M = some q) : Mt E yX10_verdictBy cX10_verdictBy 2 (some .int) 3 [.ref (ad E 0 0), .int x1] M (some (.int q.1)) q.2 := by
  unfold f_X10_verdictBy at h
  refine mt_intro (own := RX10) (lv0 := [(0, .ref (ad E 0 0)), (1, .int x1)]) (by decide) rfl rfl rfl (fun Y C R => ?_)
  refine g_iload_n C dX10_verdictBy_0 rfl rfl ?_
  refine g_if_lt (tgt := 9) C dX10_verdictBy_1 (by decide) h (fun h => ?_) (fun h => ?_)
  · refine g_aload_n C dX10_verdictBy_9 rfl rfl ?_
    refine g_iconst (v := (5 : Int32)) C dX10_verdictBy_10 (by decide) ?_
    obtain ⟨q1, hr1, h⟩ := Option.bind_eq_some_iff.mp h
    refine call_X10_133 C dX10_verdictBy_11 (by decide) (c_X10_none E hr1) (by decide) rfl ?_
    exact g_iret C R dX10_verdictBy_14 (fst_of h) (snd_of h)
  · refine g_iload_n C dX10_verdictBy_4 rfl rfl ?_
    refine g_iconst (v := (2 : Int32)) C dX10_verdictBy_5 (by decide) ?_
    refine g_icmp_le (tgt := 15) C dX10_verdictBy_6 (by decide) h (fun h => ?_) (fun h => ?_)
    · refine g_aload_n C dX10_verdictBy_15 rfl rfl ?_
      refine g_aload_n C dX10_verdictBy_16 rfl rfl ?_
      refine get_X10_19 C dX10_verdictBy_17 (by decide) ?_
      refine get_X10_182 C dX10_verdictBy_20 (by decide) ?_
      refine g_iload_n C dX10_verdictBy_23 rfl rfl ?_
      obtain ⟨r2, hr2, h⟩ := Option.bind_eq_some_iff.mp h
      refine call_X10_286 C dX10_verdictBy_24 (by decide) (c_X3_ruling E (by decide) hr2) (by decide) rfl ?_
      obtain ⟨q3, hr3, h⟩ := Option.bind_eq_some_iff.mp h
      refine call_X10_197 C dX10_verdictBy_27 (by decide) (c_X10_answer E hr3) (by decide) rfl ?_
      exact g_iret C R dX10_verdictBy_30 (fst_of h) (snd_of h)
    · refine g_aload_n C dX10_verdictBy_9 rfl rfl ?_
      refine g_iconst (v := (5 : Int32)) C dX10_verdictBy_10 (by decide) ?_
      obtain ⟨q4, hr4, h⟩ := Option.bind_eq_some_iff.mp h
      refine call_X10_133 C dX10_verdictBy_11 (by decide) (c_X10_none E hr4) (by decide) rfl ?_
      exact g_iret C R dX10_verdictBy_14 (fst_of h) (snd_of h)
noncomputable def f_X10_swing_88 (k47 : Int32 → Int32 → Option (Int32 × Mem)) (i1 : Nat) (x2 : Int32) (x3 : Int32) (x4 : Int32) (x5 : Int32) (x6 : Int32) (x7 : Int32) (ps0 : Int32) (M : Mem) : Option (Int32 × Mem) :=
  if ps0 = 0 then
    (f_X10_rule x2 x3 (x4 - (1 : Int32))).bind fun r7 =>
    if r7 = x5 then
      k47 x6 (x7 + (1 : Int32))
    else
      let x6_8 := (x6 ||| ((1 : Int32) <<< (x7 &&& 31)))
      k47 x6_8 (x7 + (1 : Int32))
  else
    (f_X10_rule x2 (x3 - (1 : Int32)) x4).bind fun r9 =>
    if r9 = x5 then
      k47 x6 (x7 + (1 : Int32))
    else
      let x6_10 := (x6 ||| ((1 : Int32) <<< (x7 &&& 31)))
      k47 x6_10 (x7 + (1 : Int32))
noncomputable def f_X10_swing_47 (i1 : Nat) (x2 : Int32) (x3 : Int32) (x4 : Int32) (x5 : Int32) (M : Mem) : Nat → Int32 → Int32 → Option (Int32 × Mem)
  | 0, _, _ => none
  | n + 1, x6, x7 =>
  if x7 < (M.1 9 0 0) then
    (f_X3_isSeated i1 x7 M).bind fun r5 =>
    if r5 = 0 then
      f_X10_swing_47 i1 x2 x3 x4 x5 M n x6 (x7 + (1 : Int32))
    else
      if inb x7 10 = true then
       if 0 < (M.1 21 i1 x7.toNatClampNeg) then
         f_X10_swing_88 (fun x6_12 x7_12 =>
             f_X10_swing_47 i1 x2 x3 x4 x5 M n x6_12 x7_12) i1 x2 x3 x4 x5 x6 x7 (1 : Int32) M
       else
         f_X10_swing_88 (fun x6_11 x7_11 =>
             f_X10_swing_47 i1 x2 x3 x4 x5 M n x6_11 x7_11) i1 x2 x3 x4 x5 x6 x7 (0 : Int32) M
      else none
  else
    (f_X10_answer x6 M).bind fun q4 =>
    some (q4.1, q4.2)
noncomputable def f_X10_swing (M : Mem) : Option (Int32 × Mem) :=
  (f_X3_guiltyVotes 0 M).bind fun r1 =>
  (f_X3_seatedCount 0 M).bind fun r2 =>
  (f_X10_rule (M.1 8 0 12) r1 (r2 - r1)).bind fun r3 =>
  f_X10_swing_47 0 (M.1 8 0 12) r1 (r2 - r1) r3 M FU (0 : Int32) (0 : Int32)
set_option maxRecDepth 20000 in
set_option maxHeartbeats 2000000 in
theorem b_X10_swing_88 {E : wEnv} {Y : YT} (C : Cx E Y cX10_swing 10 RX10 2) {q : (Int32 × Mem)} {M : Mem} (R : Rx E Y (some .int) (some (.int q.1)) q.2) {i1 : Nat} {x2 : Int32} {x3 : Int32} {x4 : Int32} {x5 : Int32} {x6 : Int32} {x7 : Int32} {ps0 : Int32} (hi1 : i1 < cnt 20) {k47 : Int32 → Int32 → Option (Int32 × Mem)} (hk47 : ∀ {x6 : Int32} {x7 : Int32} , k47 x6 x7 = some q → G E Y 10 M 47 [(0, .ref (ad E 0 0)), (1, .ref (ad E 20 i1)), (2, .int x2), (3, .int x3), (4, .int x4), (5, .int x5), (6, .int x6), (7, .int x7)] []) (h : f_X10_swing_88 k47 i1 x2 x3 x4 x5 x6 x7 ps0 M = some q) : G E Y 10 M 88 [(0, .ref (ad E 0 0)), (1, .ref (ad E 20 i1)), (2, .int x2), (3, .int x3), (4, .int x4), (5, .int x5), (6, .int x6), (7, .int x7)] [.int ps0] := by
  unfold f_X10_swing_88 at h
  refine g_istore C dX10_swing_88 rfl ?_
  refine g_iload C dX10_swing_90 rfl ?_
  refine g_if_eq (tgt := 107) C dX10_swing_92 (by decide) h (fun h => ?_) (fun h => ?_)
  · refine g_iload_n C dX10_swing_107 rfl rfl ?_
    refine g_iload_n C dX10_swing_108 rfl rfl ?_
    refine g_iload C dX10_swing_109 rfl ?_
    refine g_iconst (v := (1 : Int32)) C dX10_swing_111 (by decide) ?_
    refine g_isub C dX10_swing_112 ?_
    obtain ⟨r7, hr7, h⟩ := Option.bind_eq_some_iff.mp h
    refine call_X10_320 C dX10_swing_113 (c_X10_rule E hr7) (by decide) rfl ?_
    refine g_istore C dX10_swing_116 rfl ?_
    refine g_iload C dX10_swing_118 rfl ?_
    refine g_iload C dX10_swing_120 rfl ?_
    refine g_icmp_eq (tgt := 134) C dX10_swing_122 (by decide) h (fun h => ?_) (fun h => ?_)
    · refine g_iinc (w := (1 : Int32)) C dX10_swing_134 rfl (by decide) rfl ?_
      refine g_goto (tgt := 47) C dX10_swing_137 (by decide) ?_
      exact g_sub (hk47 h) ⟨rfl, rfl, rfl, rfl, rfl, rfl, rfl, rfl, trivial⟩
    · refine g_iload C dX10_swing_125 rfl ?_
      refine g_iconst (v := (1 : Int32)) C dX10_swing_127 (by decide) ?_
      refine g_iload C dX10_swing_128 rfl ?_
      refine g_ishl C dX10_swing_130 ?_
      refine g_ior C dX10_swing_131 ?_
      refine g_istore C dX10_swing_132 rfl ?_
      refine g_iinc (w := (1 : Int32)) C dX10_swing_134 rfl (by decide) rfl ?_
      refine g_goto (tgt := 47) C dX10_swing_137 (by decide) ?_
      exact g_sub (hk47 h) ⟨rfl, rfl, rfl, rfl, rfl, rfl, rfl, rfl, trivial⟩
  · refine g_iload_n C dX10_swing_95 rfl rfl ?_
    refine g_iload_n C dX10_swing_96 rfl rfl ?_
    refine g_iconst (v := (1 : Int32)) C dX10_swing_97 (by decide) ?_
    refine g_isub C dX10_swing_98 ?_
    refine g_iload C dX10_swing_99 rfl ?_
    obtain ⟨r9, hr9, h⟩ := Option.bind_eq_some_iff.mp h
    refine call_X10_320 C dX10_swing_101 (c_X10_rule E hr9) (by decide) rfl ?_
    refine g_goto (tgt := 116) C dX10_swing_104 (by decide) ?_
    refine g_istore C dX10_swing_116 rfl ?_
    refine g_iload C dX10_swing_118 rfl ?_
    refine g_iload C dX10_swing_120 rfl ?_
    refine g_icmp_eq (tgt := 134) C dX10_swing_122 (by decide) h (fun h => ?_) (fun h => ?_)
    · refine g_iinc (w := (1 : Int32)) C dX10_swing_134 rfl (by decide) rfl ?_
      refine g_goto (tgt := 47) C dX10_swing_137 (by decide) ?_
      exact g_sub (hk47 h) ⟨rfl, rfl, rfl, rfl, rfl, rfl, rfl, rfl, trivial⟩
    · refine g_iload C dX10_swing_125 rfl ?_
      refine g_iconst (v := (1 : Int32)) C dX10_swing_127 (by decide) ?_
      refine g_iload C dX10_swing_128 rfl ?_
      refine g_ishl C dX10_swing_130 ?_
      refine g_ior C dX10_swing_131 ?_
      refine g_istore C dX10_swing_132 rfl ?_
      refine g_iinc (w := (1 : Int32)) C dX10_swing_134 rfl (by decide) rfl ?_
      refine g_goto (tgt := 47) C dX10_swing_137 (by decide) ?_
      exact g_sub (hk47 h) ⟨rfl, rfl, rfl, rfl, rfl, rfl, rfl, rfl, trivial⟩
set_option maxRecDepth 20000 in
set_option maxHeartbeats 2000000 in
theorem b_X10_swing_47 {E : wEnv} {Y : YT} (C : Cx E Y cX10_swing 10 RX10 2) {q : (Int32 × Mem)} {M : Mem} (R : Rx E Y (some .int) (some (.int q.1)) q.2) {i1 : Nat} {x2 : Int32} {x3 : Int32} {x4 : Int32} {x5 : Int32} (hi1 : i1 < cnt 20) (n : Nat) : ∀ {x6 : Int32} {x7 : Int32} (_ : f_X10_swing_47 i1 x2 x3 x4 x5 M n x6 x7 = some q), G E Y 10 M 47 [(0, .ref (ad E 0 0)), (1, .ref (ad E 20 i1)), (2, .int x2), (3, .int x3), (4, .int x4), (5, .int x5), (6, .int x6), (7, .int x7)] [] := by
  induction n with
  | zero =>
    intro x6 x7 h
    cases (show none = some q from h)
  | succ n ih =>
    intro x6 x7 h
    rw [f_X10_swing_47] at h
    refine g_iload C dX10_swing_47 rfl ?_
    refine g_aload_n C dX10_swing_49 rfl rfl ?_
    refine get_X10_19 C dX10_swing_50 (by decide) ?_
    refine get_X10_175 C dX10_swing_53 (by decide) ?_
    refine get_X10_194 C dX10_swing_56 (by decide) ?_
    refine g_iconst (v := (0 : Int32)) C dX10_swing_59 (by decide) ?_
    refine ld_9 (j := 0) C dX10_swing_60 (by decide) (by decide) rfl ?_
    refine g_icmp_ge (tgt := 140) C dX10_swing_61 (by decide) h (fun h => ?_) (fun h => ?_)
    · refine g_aload_n C dX10_swing_140 rfl rfl ?_
      refine g_iload C dX10_swing_141 rfl ?_
      obtain ⟨q4, hr4, h⟩ := Option.bind_eq_some_iff.mp h
      refine call_X10_197 C dX10_swing_143 (by decide) (c_X10_answer E hr4) (by decide) rfl ?_
      exact g_iret C R dX10_swing_146 (fst_of h) (snd_of h)
    · refine g_aload_n C dX10_swing_64 rfl rfl ?_
      refine g_iload C dX10_swing_65 rfl ?_
      obtain ⟨r5, hr5, h⟩ := Option.bind_eq_some_iff.mp h
      refine call_X10_293 C dX10_swing_67 hi1 (c_X3_isSeated E hi1 hr5) (by decide) rfl ?_
      refine g_if_eq (tgt := 134) C dX10_swing_70 (by decide) h (fun h => ?_) (fun h => ?_)
      · refine g_iinc (w := (1 : Int32)) C dX10_swing_134 rfl (by decide) rfl ?_
        refine g_goto (tgt := 47) C dX10_swing_137 (by decide) ?_
        exact g_sub (ih h) ⟨rfl, rfl, rfl, rfl, rfl, rfl, rfl, rfl, trivial⟩
      · refine g_aload_n C dX10_swing_73 rfl rfl ?_
        refine get_X10_241 C dX10_swing_74 hi1 ?_
        refine g_iload C dX10_swing_77 rfl ?_
        obtain ⟨hb6, h⟩ := of_ite h
        refine ld_21 (j := _) C dX10_swing_79 (Nat.lt_of_lt_of_le hi1 (by decide : cnt 20 ≤ cnt 21)) hb6 rfl ?_
        refine g_if_le (tgt := 87) C dX10_swing_80 (by decide) h (fun h => ?_) (fun h => ?_)
        · refine g_iconst (v := (0 : Int32)) C dX10_swing_87 (by decide) ?_
          refine g_sub (b_X10_swing_88 C R hi1 ?_  h) ⟨rfl, rfl, rfl, rfl, rfl, rfl, rfl, rfl, trivial⟩
          · clear h
            intro x6_11 x7_11 h
            exact g_sub (ih h) ⟨rfl, rfl, rfl, rfl, rfl, rfl, rfl, rfl, trivial⟩
        · refine g_iconst (v := (1 : Int32)) C dX10_swing_83 (by decide) ?_
          refine g_goto (tgt := 88) C dX10_swing_84 (by decide) ?_
          refine g_sub (b_X10_swing_88 C R hi1 ?_  h) ⟨rfl, rfl, rfl, rfl, rfl, rfl, rfl, rfl, trivial⟩
          · clear h
            intro x6_12 x7_12 h
            exact g_sub (ih h) ⟨rfl, rfl, rfl, rfl, rfl, rfl, rfl, rfl, trivial⟩
set_option maxRecDepth 20000 in
set_option maxHeartbeats 2000000 in
theorem c_X10_swing (E : wEnv) {M : Mem} {q : (Int32 × Mem)} (h : f_X10_swing M = some q) : Mt E yX10_swing cX10_swing 10 (some .int) 2 [.ref (ad E 0 0)] M (some (.int q.1)) q.2 := by
  unfold f_X10_swing at h
  refine mt_intro (own := RX10) (lv0 := [(0, .ref (ad E 0 0))]) (by decide) rfl rfl rfl (fun Y C R => ?_)
  refine g_aload_n C dX10_swing_0 rfl rfl ?_
  refine get_X10_19 C dX10_swing_1 (by decide) ?_
  refine get_X10_182 C dX10_swing_4 (by decide) ?_
  refine g_astore_n C dX10_swing_7 rfl rfl ?_
  refine g_aload_n C dX10_swing_8 rfl rfl ?_
  refine get_X10_19 C dX10_swing_9 (by decide) ?_
  refine get_X10_175 C dX10_swing_12 (by decide) ?_
  refine get_X10_213 C dX10_swing_15 (by decide) ?_
  refine g_istore_n C dX10_swing_18 rfl rfl ?_
  refine g_aload_n C dX10_swing_19 rfl rfl ?_
  obtain ⟨r1, hr1, h⟩ := Option.bind_eq_some_iff.mp h
  refine call_X10_313 C dX10_swing_20 (by decide) (c_X3_guiltyVotes E (by decide) hr1) (by decide) rfl ?_
  refine g_istore_n C dX10_swing_23 rfl rfl ?_
  refine g_aload_n C dX10_swing_24 rfl rfl ?_
  obtain ⟨r2, hr2, h⟩ := Option.bind_eq_some_iff.mp h
  refine call_X10_317 C dX10_swing_25 (by decide) (c_X3_seatedCount E (by decide) hr2) (by decide) rfl ?_
  refine g_iload_n C dX10_swing_28 rfl rfl ?_
  refine g_isub C dX10_swing_29 ?_
  refine g_istore C dX10_swing_30 rfl ?_
  refine g_iload_n C dX10_swing_32 rfl rfl ?_
  refine g_iload_n C dX10_swing_33 rfl rfl ?_
  refine g_iload C dX10_swing_34 rfl ?_
  obtain ⟨r3, hr3, h⟩ := Option.bind_eq_some_iff.mp h
  refine call_X10_320 C dX10_swing_36 (c_X10_rule E hr3) (by decide) rfl ?_
  refine g_istore C dX10_swing_39 rfl ?_
  refine g_iconst (v := (0 : Int32)) C dX10_swing_41 (by decide) ?_
  refine g_istore C dX10_swing_42 rfl ?_
  refine g_iconst (v := (0 : Int32)) C dX10_swing_44 (by decide) ?_
  refine g_istore C dX10_swing_45 rfl ?_
  exact g_sub (b_X10_swing_47 C R (by decide) _ h) ⟨rfl, rfl, rfl, rfl, rfl, rfl, rfl, rfl, trivial⟩
noncomputable def f_X10_lacks_35 (x1 : Int32) (x2 : Int32) (M : Mem) : Nat → Int32 → Option (Int32 × Mem)
  | 0, _ => none
  | n + 1, x3 =>
  if (x2 + x3) < x1 then
    (f_X10_rule (M.1 8 0 12) (x2 + x3) ((x1 - x2) - x3)).bind fun r4 =>
    if r4 = (1 : Int32) then
      (f_X10_answer x3 M).bind fun q5 =>
      some (q5.1, q5.2)
    else
      f_X10_lacks_35 x1 x2 M n (x3 + (1 : Int32))
  else
    (f_X10_answer x3 M).bind fun q3 =>
    some (q3.1, q3.2)
noncomputable def f_X10_lacks (M : Mem) : Option (Int32 × Mem) :=
  (f_X3_seatedCount 0 M).bind fun r1 =>
  if r1 = 0 then
    (f_X10_none (8 : Int32) M).bind fun q6 =>
    some (q6.1, q6.2)
  else
    (f_X3_guiltyVotes 0 M).bind fun r2 =>
    f_X10_lacks_35 r1 r2 M FU (0 : Int32)
set_option maxRecDepth 20000 in
set_option maxHeartbeats 2000000 in
theorem b_X10_lacks_35 {E : wEnv} {Y : YT} (C : Cx E Y cX10_lacks 4 RX10 2) {q : (Int32 × Mem)} {M : Mem} (R : Rx E Y (some .int) (some (.int q.1)) q.2) {x1 : Int32} {x2 : Int32} (n : Nat) : ∀ {x3 : Int32} (_ : f_X10_lacks_35 x1 x2 M n x3 = some q), G E Y 4 M 35 [(0, .ref (ad E 0 0)), (1, .int x1), (2, .int x2), (3, .int x3)] [] := by
  induction n with
  | zero =>
    intro x3 h
    cases (show none = some q from h)
  | succ n ih =>
    intro x3 h
    rw [f_X10_lacks_35] at h
    refine g_iload_n C dX10_lacks_35 rfl rfl ?_
    refine g_iload_n C dX10_lacks_36 rfl rfl ?_
    refine g_iadd C dX10_lacks_37 ?_
    refine g_iload_n C dX10_lacks_38 rfl rfl ?_
    refine g_icmp_ge (tgt := 73) C dX10_lacks_39 (by decide) h (fun h => ?_) (fun h => ?_)
    · refine g_aload_n C dX10_lacks_73 rfl rfl ?_
      refine g_iload_n C dX10_lacks_74 rfl rfl ?_
      obtain ⟨q3, hr3, h⟩ := Option.bind_eq_some_iff.mp h
      refine call_X10_197 C dX10_lacks_75 (by decide) (c_X10_answer E hr3) (by decide) rfl ?_
      exact g_iret C R dX10_lacks_78 (fst_of h) (snd_of h)
    · refine g_aload_n C dX10_lacks_42 rfl rfl ?_
      refine get_X10_19 C dX10_lacks_43 (by decide) ?_
      refine get_X10_175 C dX10_lacks_46 (by decide) ?_
      refine get_X10_213 C dX10_lacks_49 (by decide) ?_
      refine g_iload_n C dX10_lacks_52 rfl rfl ?_
      refine g_iload_n C dX10_lacks_53 rfl rfl ?_
      refine g_iadd C dX10_lacks_54 ?_
      refine g_iload_n C dX10_lacks_55 rfl rfl ?_
      refine g_iload_n C dX10_lacks_56 rfl rfl ?_
      refine g_isub C dX10_lacks_57 ?_
      refine g_iload_n C dX10_lacks_58 rfl rfl ?_
      refine g_isub C dX10_lacks_59 ?_
      obtain ⟨r4, hr4, h⟩ := Option.bind_eq_some_iff.mp h
      refine call_X10_320 C dX10_lacks_60 (c_X10_rule E hr4) (by decide) rfl ?_
      refine g_iconst (v := (1 : Int32)) C dX10_lacks_63 (by decide) ?_
      refine g_icmp_eq (tgt := 73) C dX10_lacks_64 (by decide) h (fun h => ?_) (fun h => ?_)
      · refine g_aload_n C dX10_lacks_73 rfl rfl ?_
        refine g_iload_n C dX10_lacks_74 rfl rfl ?_
        obtain ⟨q5, hr5, h⟩ := Option.bind_eq_some_iff.mp h
        refine call_X10_197 C dX10_lacks_75 (by decide) (c_X10_answer E hr5) (by decide) rfl ?_
        exact g_iret C R dX10_lacks_78 (fst_of h) (snd_of h)
      · refine g_iinc (w := (1 : Int32)) C dX10_lacks_67 rfl (by decide) rfl ?_
        refine g_goto (tgt := 35) C dX10_lacks_70 (by decide) ?_
        exact g_sub (ih h) ⟨rfl, rfl, rfl, rfl, trivial⟩
set_option maxRecDepth 20000 in
set_option maxHeartbeats 2000000 in
theorem c_X10_lacks (E : wEnv) {M : Mem} {q : (Int32 × Mem)} (h : f_X10_lacks M = some q) : Mt E yX10_lacks cX10_lacks 4 (some .int) 2 [.ref (ad E 0 0)] M (some (.int q.1)) q.2 := by
  unfold f_X10_lacks at h
  refine mt_intro (own := RX10) (lv0 := [(0, .ref (ad E 0 0))]) (by decide) rfl rfl rfl (fun Y C R => ?_)
  refine g_aload_n C dX10_lacks_0 rfl rfl ?_
  refine get_X10_19 C dX10_lacks_1 (by decide) ?_
  refine get_X10_182 C dX10_lacks_4 (by decide) ?_
  obtain ⟨r1, hr1, h⟩ := Option.bind_eq_some_iff.mp h
  refine call_X10_317 C dX10_lacks_7 (by decide) (c_X3_seatedCount E (by decide) hr1) (by decide) rfl ?_
  refine g_istore_n C dX10_lacks_10 rfl rfl ?_
  refine g_iload_n C dX10_lacks_11 rfl rfl ?_
  refine g_if_ne (tgt := 22) C dX10_lacks_12 (by decide) h (fun h => ?_) (fun h => ?_)
  · refine g_aload_n C dX10_lacks_22 rfl rfl ?_
    refine get_X10_19 C dX10_lacks_23 (by decide) ?_
    refine get_X10_182 C dX10_lacks_26 (by decide) ?_
    obtain ⟨r2, hr2, h⟩ := Option.bind_eq_some_iff.mp h
    refine call_X10_313 C dX10_lacks_29 (by decide) (c_X3_guiltyVotes E (by decide) hr2) (by decide) rfl ?_
    refine g_istore_n C dX10_lacks_32 rfl rfl ?_
    refine g_iconst (v := (0 : Int32)) C dX10_lacks_33 (by decide) ?_
    refine g_istore_n C dX10_lacks_34 rfl rfl ?_
    exact g_sub (b_X10_lacks_35 C R _ h) ⟨rfl, rfl, rfl, rfl, trivial⟩
  · refine g_aload_n C dX10_lacks_15 rfl rfl ?_
    refine g_bipush (v := (8 : Int32)) C dX10_lacks_16 (by decide) ?_
    obtain ⟨q6, hr6, h⟩ := Option.bind_eq_some_iff.mp h
    refine call_X10_133 C dX10_lacks_18 (by decide) (c_X10_none E hr6) (by decide) rfl ?_
    exact g_iret C R dX10_lacks_21 (fst_of h) (snd_of h)
noncomputable def f_X10_nearest_64 (k6 : Int32 → Int32 → Int32 → Option (Int32 × Mem)) (x1 : Int32) (x2 : Int32) (x3 : Int32) (ps0 : Int32) (M : Mem) : Option (Int32 × Mem) :=
  if x1 = (-1 : Int32) then
    k6 x3 ps0 (x3 + (1 : Int32))
  else
    if ps0 < x2 then
      k6 x3 ps0 (x3 + (1 : Int32))
    else
      k6 x1 x2 (x3 + (1 : Int32))
noncomputable def f_X10_nearest_6 (M : Mem) : Nat → Int32 → Int32 → Int32 → Option (Int32 × Mem)
  | 0, _, _, _ => none
  | n + 1, x1, x2, x3 =>
  if x3 < (M.1 9 0 0) then
    (f_X3_isSeated 0 x3 M).bind fun r3 =>
    if r3 = 0 then
      f_X10_nearest_6 M n x1 x2 (x3 + (1 : Int32))
    else
      if inb x3 10 = true then
       let x4_5 := (M.1 21 0 x3.toNatClampNeg)
       if 0 < x4_5 then
         f_X10_nearest_64 (fun x1_7 x2_7 x3_7 =>
             f_X10_nearest_6 M n x1_7 x2_7 x3_7) x1 x2 x3 x4_5 M
       else
         f_X10_nearest_64 (fun x1_6 x2_6 x3_6 =>
             f_X10_nearest_6 M n x1_6 x2_6 x3_6) x1 x2 x3 ((1 : Int32) - x4_5) M
      else none
  else
    if x1 = (-1 : Int32) then
      (f_X10_none (8 : Int32) M).bind fun q2 =>
      some (q2.1, q2.2)
    else
      (f_X10_answer x1 M).bind fun q1 =>
      some (q1.1, q1.2)
noncomputable def f_X10_nearest (M : Mem) : Option (Int32 × Mem) :=
  f_X10_nearest_6 M FU (-1 : Int32) (0 : Int32) (0 : Int32)
set_option maxRecDepth 20000 in
set_option maxHeartbeats 2000000 in
theorem b_X10_nearest_64 {E : wEnv} {Y : YT} (C : Cx E Y cX10_nearest 6 RX10 1) {q : (Int32 × Mem)} {M : Mem} (R : Rx E Y (some .int) (some (.int q.1)) q.2) {x1 : Int32} {x2 : Int32} {x3 : Int32} {ps0 : Int32} {k6 : Int32 → Int32 → Int32 → Option (Int32 × Mem)} (hk6 : ∀ {x1 : Int32} {x2 : Int32} {x3 : Int32} , k6 x1 x2 x3 = some q → G E Y 6 M 6 [(0, .ref (ad E 0 0)), (1, .int x1), (2, .int x2), (3, .int x3)] []) (h : f_X10_nearest_64 k6 x1 x2 x3 ps0 M = some q) : G E Y 6 M 64 [(0, .ref (ad E 0 0)), (1, .int x1), (2, .int x2), (3, .int x3)] [.int ps0] := by
  unfold f_X10_nearest_64 at h
  refine g_istore C dX10_nearest_64 rfl ?_
  refine g_iload_n C dX10_nearest_66 rfl rfl ?_
  refine g_iconst (v := (-1 : Int32)) C dX10_nearest_67 (by decide) ?_
  refine g_icmp_eq (tgt := 77) C dX10_nearest_68 (by decide) h (fun h => ?_) (fun h => ?_)
  · refine g_iload_n C dX10_nearest_77 rfl rfl ?_
    refine g_istore_n C dX10_nearest_78 rfl rfl ?_
    refine g_iload C dX10_nearest_79 rfl ?_
    refine g_istore_n C dX10_nearest_81 rfl rfl ?_
    refine g_iinc (w := (1 : Int32)) C dX10_nearest_82 rfl (by decide) rfl ?_
    refine g_goto (tgt := 6) C dX10_nearest_85 (by decide) ?_
    exact g_sub (hk6 h) ⟨rfl, rfl, rfl, rfl, trivial⟩
  · refine g_iload C dX10_nearest_71 rfl ?_
    refine g_iload_n C dX10_nearest_73 rfl rfl ?_
    refine g_icmp_ge (tgt := 82) C dX10_nearest_74 (by decide) h (fun h => ?_) (fun h => ?_)
    · refine g_iinc (w := (1 : Int32)) C dX10_nearest_82 rfl (by decide) rfl ?_
      refine g_goto (tgt := 6) C dX10_nearest_85 (by decide) ?_
      exact g_sub (hk6 h) ⟨rfl, rfl, rfl, rfl, trivial⟩
    · refine g_iload_n C dX10_nearest_77 rfl rfl ?_
      refine g_istore_n C dX10_nearest_78 rfl rfl ?_
      refine g_iload C dX10_nearest_79 rfl ?_
      refine g_istore_n C dX10_nearest_81 rfl rfl ?_
      refine g_iinc (w := (1 : Int32)) C dX10_nearest_82 rfl (by decide) rfl ?_
      refine g_goto (tgt := 6) C dX10_nearest_85 (by decide) ?_
      exact g_sub (hk6 h) ⟨rfl, rfl, rfl, rfl, trivial⟩
set_option maxRecDepth 20000 in
set_option maxHeartbeats 2000000 in
theorem b_X10_nearest_6 {E : wEnv} {Y : YT} (C : Cx E Y cX10_nearest 6 RX10 1) {q : (Int32 × Mem)} {M : Mem} (R : Rx E Y (some .int) (some (.int q.1)) q.2) (n : Nat) : ∀ {x1 : Int32} {x2 : Int32} {x3 : Int32} (_ : f_X10_nearest_6 M n x1 x2 x3 = some q), G E Y 6 M 6 [(0, .ref (ad E 0 0)), (1, .int x1), (2, .int x2), (3, .int x3)] [] := by
  induction n with
  | zero =>
    intro x1 x2 x3 h
    cases (show none = some q from h)
  | succ n ih =>
    intro x1 x2 x3 h
    rw [f_X10_nearest_6] at h
    refine g_iload_n C dX10_nearest_6 rfl rfl ?_
    refine g_aload_n C dX10_nearest_7 rfl rfl ?_
    refine get_X10_19 C dX10_nearest_8 (by decide) ?_
    refine get_X10_175 C dX10_nearest_11 (by decide) ?_
    refine get_X10_194 C dX10_nearest_14 (by decide) ?_
    refine g_iconst (v := (0 : Int32)) C dX10_nearest_17 (by decide) ?_
    refine ld_9 (j := 0) C dX10_nearest_18 (by decide) (by decide) rfl ?_
    refine g_icmp_ge (tgt := 88) C dX10_nearest_19 (by decide) h (fun h => ?_) (fun h => ?_)
    · refine g_iload_n C dX10_nearest_88 rfl rfl ?_
      refine g_iconst (v := (-1 : Int32)) C dX10_nearest_89 (by decide) ?_
      refine g_icmp_ne (tgt := 102) C dX10_nearest_90 (by decide) h (fun h => ?_) (fun h => ?_)
      · refine g_aload_n C dX10_nearest_102 rfl rfl ?_
        refine g_iload_n C dX10_nearest_103 rfl rfl ?_
        obtain ⟨q1, hr1, h⟩ := Option.bind_eq_some_iff.mp h
        refine call_X10_197 C dX10_nearest_104 (by decide) (c_X10_answer E hr1) (by decide) rfl ?_
        exact g_iret C R dX10_nearest_107 (fst_of h) (snd_of h)
      · refine g_aload_n C dX10_nearest_93 rfl rfl ?_
        refine g_bipush (v := (8 : Int32)) C dX10_nearest_94 (by decide) ?_
        obtain ⟨q2, hr2, h⟩ := Option.bind_eq_some_iff.mp h
        refine call_X10_133 C dX10_nearest_96 (by decide) (c_X10_none E hr2) (by decide) rfl ?_
        refine g_goto (tgt := 107) C dX10_nearest_99 (by decide) ?_
        exact g_iret C R dX10_nearest_107 (fst_of h) (snd_of h)
    · refine g_aload_n C dX10_nearest_22 rfl rfl ?_
      refine get_X10_19 C dX10_nearest_23 (by decide) ?_
      refine get_X10_182 C dX10_nearest_26 (by decide) ?_
      refine g_iload_n C dX10_nearest_29 rfl rfl ?_
      obtain ⟨r3, hr3, h⟩ := Option.bind_eq_some_iff.mp h
      refine call_X10_293 C dX10_nearest_30 (by decide) (c_X3_isSeated E (by decide) hr3) (by decide) rfl ?_
      refine g_if_eq (tgt := 82) C dX10_nearest_33 (by decide) h (fun h => ?_) (fun h => ?_)
      · refine g_iinc (w := (1 : Int32)) C dX10_nearest_82 rfl (by decide) rfl ?_
        refine g_goto (tgt := 6) C dX10_nearest_85 (by decide) ?_
        exact g_sub (ih h) ⟨rfl, rfl, rfl, rfl, trivial⟩
      · refine g_aload_n C dX10_nearest_36 rfl rfl ?_
        refine get_X10_19 C dX10_nearest_37 (by decide) ?_
        refine get_X10_182 C dX10_nearest_40 (by decide) ?_
        refine get_X10_241 C dX10_nearest_43 (by decide) ?_
        refine g_iload_n C dX10_nearest_46 rfl rfl ?_
        obtain ⟨hb4, h⟩ := of_ite h
        refine ld_21 (j := _) C dX10_nearest_47 (by decide) hb4 rfl ?_
        refine g_istore C dX10_nearest_48 rfl ?_
        refine g_iload C dX10_nearest_50 rfl ?_
        refine g_if_le (tgt := 60) C dX10_nearest_52 (by decide) h (fun h => ?_) (fun h => ?_)
        · refine g_iconst (v := (1 : Int32)) C dX10_nearest_60 (by decide) ?_
          refine g_iload C dX10_nearest_61 rfl ?_
          refine g_isub C dX10_nearest_63 ?_
          refine g_sub (b_X10_nearest_64 C R ?_  h) ⟨rfl, rfl, rfl, rfl, trivial⟩
          · clear h
            intro x1_6 x2_6 x3_6 h
            exact g_sub (ih h) ⟨rfl, rfl, rfl, rfl, trivial⟩
        · refine g_iload C dX10_nearest_55 rfl ?_
          refine g_goto (tgt := 64) C dX10_nearest_57 (by decide) ?_
          refine g_sub (b_X10_nearest_64 C R ?_  h) ⟨rfl, rfl, rfl, rfl, trivial⟩
          · clear h
            intro x1_7 x2_7 x3_7 h
            exact g_sub (ih h) ⟨rfl, rfl, rfl, rfl, trivial⟩
set_option maxRecDepth 20000 in
set_option maxHeartbeats 2000000 in
theorem c_X10_nearest (E : wEnv) {M : Mem} {q : (Int32 × Mem)} (h : f_X10_nearest M = some q) : Mt E yX10_nearest cX10_nearest 6 (some .int) 1 [.ref (ad E 0 0)] M (some (.int q.1)) q.2 := by
  unfold f_X10_nearest at h
  refine mt_intro (own := RX10) (lv0 := [(0, .ref (ad E 0 0))]) (by decide) rfl rfl rfl (fun Y C R => ?_)
  refine g_iconst (v := (-1 : Int32)) C dX10_nearest_0 (by decide) ?_
  refine g_istore_n C dX10_nearest_1 rfl rfl ?_
  refine g_iconst (v := (0 : Int32)) C dX10_nearest_2 (by decide) ?_
  refine g_istore_n C dX10_nearest_3 rfl rfl ?_
  refine g_iconst (v := (0 : Int32)) C dX10_nearest_4 (by decide) ?_
  refine g_istore_n C dX10_nearest_5 rfl rfl ?_
  exact g_sub (b_X10_nearest_6 C R _ h) ⟨rfl, rfl, rfl, rfl, trivial⟩
noncomputable def f_X10_pull (x1 : Int32) (M : Mem) : Option (Int32 × Mem) :=
  (f_X10_isNo (0 : Int32) x1 M).bind fun r1 =>
  if r1 = 0 then
    (f_X3_isSeated 0 x1 M).bind fun r2 =>
    if r2 = 0 then
      (f_X10_none (9 : Int32) M).bind fun q9 =>
      some (q9.1, q9.2)
    else
      (f_X3_copyFrom 4 0 M).bind fun M3 =>
      (f_X3_pullOn 4 0 x1 M3).bind fun r4 =>
      (f_X3_shift 4 x1 r4 M3).bind fun q5 =>
      if inb x1 10 = true then
       if inb x1 10 = true then
        (f_X10_answer ((q5.2.1 21 4 x1.toNatClampNeg) - (q5.2.1 21 0 x1.toNatClampNeg)) q5.2).bind fun q8 =>
        some (q8.1, q8.2)
       else none
      else none
  else
    (f_X10_none (2 : Int32) M).bind fun q10 =>
    some (q10.1, q10.2)
set_option maxRecDepth 20000 in
set_option maxHeartbeats 2000000 in
theorem c_X10_pull (E : wEnv) {x1 : Int32} {M : Mem} {q : (Int32 × Mem)} (h : f_X10_pull x1 M = some q) : Mt E yX10_pull cX10_pull 2 (some .int) 2 [.ref (ad E 0 0), .int x1] M (some (.int q.1)) q.2 := by
  unfold f_X10_pull at h
  refine mt_intro (own := RX10) (lv0 := [(0, .ref (ad E 0 0)), (1, .int x1)]) (by decide) rfl rfl rfl (fun Y C R => ?_)
  refine g_aload_n C dX10_pull_0 rfl rfl ?_
  refine g_iconst (v := (0 : Int32)) C dX10_pull_1 (by decide) ?_
  refine g_iload_n C dX10_pull_2 rfl rfl ?_
  obtain ⟨r1, hr1, h⟩ := Option.bind_eq_some_iff.mp h
  refine call_X10_237 C dX10_pull_3 (by decide) (c_X10_isNo E hr1) (by decide) rfl ?_
  refine g_if_eq (tgt := 15) C dX10_pull_6 (by decide) h (fun h => ?_) (fun h => ?_)
  · refine g_aload_n C dX10_pull_15 rfl rfl ?_
    refine get_X10_19 C dX10_pull_16 (by decide) ?_
    refine get_X10_182 C dX10_pull_19 (by decide) ?_
    refine g_iload_n C dX10_pull_22 rfl rfl ?_
    obtain ⟨r2, hr2, h⟩ := Option.bind_eq_some_iff.mp h
    refine call_X10_293 C dX10_pull_23 (by decide) (c_X3_isSeated E (by decide) hr2) (by decide) rfl ?_
    refine g_if_ne (tgt := 36) C dX10_pull_26 (by decide) h (fun h => ?_) (fun h => ?_)
    · refine g_aload_n C dX10_pull_36 rfl rfl ?_
      refine get_X10_72 C dX10_pull_37 (by decide) ?_
      refine g_aload_n C dX10_pull_40 rfl rfl ?_
      refine get_X10_19 C dX10_pull_41 (by decide) ?_
      refine get_X10_182 C dX10_pull_44 (by decide) ?_
      obtain ⟨M3, hr3, h⟩ := Option.bind_eq_some_iff.mp h
      refine call_X10_324 C dX10_pull_47 (by decide) (c_X3_copyFrom E (by decide) (by decide) hr3) (by decide) rfl ?_
      refine g_aload_n C dX10_pull_50 rfl rfl ?_
      refine get_X10_72 C dX10_pull_51 (by decide) ?_
      refine g_iload_n C dX10_pull_54 rfl rfl ?_
      refine g_aload_n C dX10_pull_55 rfl rfl ?_
      refine get_X10_72 C dX10_pull_56 (by decide) ?_
      refine g_aload_n C dX10_pull_59 rfl rfl ?_
      refine get_X10_19 C dX10_pull_60 (by decide) ?_
      refine get_X10_175 C dX10_pull_63 (by decide) ?_
      refine g_iload_n C dX10_pull_66 rfl rfl ?_
      obtain ⟨r4, hr4, h⟩ := Option.bind_eq_some_iff.mp h
      refine call_X10_327 C dX10_pull_67 (by decide) (c_X3_pullOn E (by decide) (by decide) hr4) (by decide) rfl ?_
      obtain ⟨q5, hr5, h⟩ := Option.bind_eq_some_iff.mp h
      refine call_X10_330 C dX10_pull_70 (by decide) (c_X3_shift E (by decide) hr5) (by decide) rfl ?_
      refine g_pop C dX10_pull_73 rfl ?_
      refine g_aload_n C dX10_pull_74 rfl rfl ?_
      refine g_aload_n C dX10_pull_75 rfl rfl ?_
      refine get_X10_72 C dX10_pull_76 (by decide) ?_
      refine get_X10_241 C dX10_pull_79 (by decide) ?_
      refine g_iload_n C dX10_pull_82 rfl rfl ?_
      obtain ⟨hb6, h⟩ := of_ite h
      refine ld_21 (j := _) C dX10_pull_83 (by decide) hb6 rfl ?_
      refine g_aload_n C dX10_pull_84 rfl rfl ?_
      refine get_X10_19 C dX10_pull_85 (by decide) ?_
      refine get_X10_182 C dX10_pull_88 (by decide) ?_
      refine get_X10_241 C dX10_pull_91 (by decide) ?_
      refine g_iload_n C dX10_pull_94 rfl rfl ?_
      obtain ⟨hb7, h⟩ := of_ite h
      refine ld_21 (j := _) C dX10_pull_95 (by decide) hb7 rfl ?_
      refine g_isub C dX10_pull_96 ?_
      obtain ⟨q8, hr8, h⟩ := Option.bind_eq_some_iff.mp h
      refine call_X10_197 C dX10_pull_97 (by decide) (c_X10_answer E hr8) (by decide) rfl ?_
      exact g_iret C R dX10_pull_100 (fst_of h) (snd_of h)
    · refine g_aload_n C dX10_pull_29 rfl rfl ?_
      refine g_bipush (v := (9 : Int32)) C dX10_pull_30 (by decide) ?_
      obtain ⟨q9, hr9, h⟩ := Option.bind_eq_some_iff.mp h
      refine call_X10_133 C dX10_pull_32 (by decide) (c_X10_none E hr9) (by decide) rfl ?_
      exact g_iret C R dX10_pull_35 (fst_of h) (snd_of h)
  · refine g_aload_n C dX10_pull_9 rfl rfl ?_
    refine g_iconst (v := (2 : Int32)) C dX10_pull_10 (by decide) ?_
    obtain ⟨q10, hr10, h⟩ := Option.bind_eq_some_iff.mp h
    refine call_X10_133 C dX10_pull_11 (by decide) (c_X10_none E hr10) (by decide) rfl ?_
    exact g_iret C R dX10_pull_14 (fst_of h) (snd_of h)
noncomputable def f_X10_behind (x1 : Int32) (M : Mem) : Option (Int32 × Mem) :=
  (f_X10_isNo (0 : Int32) x1 M).bind fun r1 =>
  if r1 = 0 then
    (f_X1_allBehind 0 x1 M).bind fun r2 =>
    (f_X10_answer r2 M).bind fun q3 =>
    some (q3.1, q3.2)
  else
    (f_X10_none (2 : Int32) M).bind fun q4 =>
    some (q4.1, q4.2)
set_option maxRecDepth 20000 in
set_option maxHeartbeats 2000000 in
theorem c_X10_behind (E : wEnv) {x1 : Int32} {M : Mem} {q : (Int32 × Mem)} (h : f_X10_behind x1 M = some q) : Mt E yX10_behind cX10_behind 2 (some .int) 1 [.ref (ad E 0 0), .int x1] M (some (.int q.1)) q.2 := by
  unfold f_X10_behind at h
  refine mt_intro (own := RX10) (lv0 := [(0, .ref (ad E 0 0)), (1, .int x1)]) (by decide) rfl rfl rfl (fun Y C R => ?_)
  refine g_aload_n C dX10_behind_0 rfl rfl ?_
  refine g_iconst (v := (0 : Int32)) C dX10_behind_1 (by decide) ?_
  refine g_iload_n C dX10_behind_2 rfl rfl ?_
  obtain ⟨r1, hr1, h⟩ := Option.bind_eq_some_iff.mp h
  refine call_X10_237 C dX10_behind_3 (by decide) (c_X10_isNo E hr1) (by decide) rfl ?_
  refine g_if_eq (tgt := 15) C dX10_behind_6 (by decide) h (fun h => ?_) (fun h => ?_)
  · refine g_aload_n C dX10_behind_15 rfl rfl ?_
    refine g_aload_n C dX10_behind_16 rfl rfl ?_
    refine get_X10_19 C dX10_behind_17 (by decide) ?_
    refine get_X10_175 C dX10_behind_20 (by decide) ?_
    refine g_iload_n C dX10_behind_23 rfl rfl ?_
    obtain ⟨r2, hr2, h⟩ := Option.bind_eq_some_iff.mp h
    refine call_X10_333 C dX10_behind_24 (by decide) (c_X1_allBehind E (by decide) hr2) (by decide) rfl ?_
    obtain ⟨q3, hr3, h⟩ := Option.bind_eq_some_iff.mp h
    refine call_X10_197 C dX10_behind_27 (by decide) (c_X10_answer E hr3) (by decide) rfl ?_
    exact g_iret C R dX10_behind_30 (fst_of h) (snd_of h)
  · refine g_aload_n C dX10_behind_9 rfl rfl ?_
    refine g_iconst (v := (2 : Int32)) C dX10_behind_10 (by decide) ?_
    obtain ⟨q4, hr4, h⟩ := Option.bind_eq_some_iff.mp h
    refine call_X10_133 C dX10_behind_11 (by decide) (c_X10_none E hr4) (by decide) rfl ?_
    exact g_iret C R dX10_behind_14 (fst_of h) (snd_of h)
noncomputable def f_X10_settles (x1 : Int32) (M : Mem) : Option (Int32 × Mem) :=
  if x1 < 0 then
    (f_X10_none (5 : Int32) M).bind fun q1 =>
    some (q1.1, q1.2)
  else
    if (1 : Int32) < x1 then
      (f_X10_none (5 : Int32) M).bind fun q7 =>
      some (q7.1, q7.2)
    else
      (f_X3_copyFrom 4 0 M).bind fun M2 =>
      (f_X0_settle 0 4 M2).bind fun q3 =>
      if q3.1 = 0 then
        (f_X10_none (8 : Int32) q3.2).bind fun q6 =>
        some (q6.1, q6.2)
      else
        if x1 = 0 then
          (f_X10_answer (q3.2.1 36 0 9) q3.2).bind fun q5 =>
          some (q5.1, q5.2)
        else
          (f_X10_answer (q3.2.1 36 0 10) q3.2).bind fun q4 =>
          some (q4.1, q4.2)
set_option maxRecDepth 20000 in
set_option maxHeartbeats 2000000 in
theorem c_X10_settles (E : wEnv) {x1 : Int32} {M : Mem} {q : (Int32 × Mem)} (h : f_X10_settles x1 M = some q) : Mt E yX10_settles cX10_settles 2 (some .int) 5 [.ref (ad E 0 0), .int x1] M (some (.int q.1)) q.2 := by
  unfold f_X10_settles at h
  refine mt_intro (own := RX10) (lv0 := [(0, .ref (ad E 0 0)), (1, .int x1)]) (by decide) rfl rfl rfl (fun Y C R => ?_)
  refine g_iload_n C dX10_settles_0 rfl rfl ?_
  refine g_if_lt (tgt := 9) C dX10_settles_1 (by decide) h (fun h => ?_) (fun h => ?_)
  · refine g_aload_n C dX10_settles_9 rfl rfl ?_
    refine g_iconst (v := (5 : Int32)) C dX10_settles_10 (by decide) ?_
    obtain ⟨q1, hr1, h⟩ := Option.bind_eq_some_iff.mp h
    refine call_X10_133 C dX10_settles_11 (by decide) (c_X10_none E hr1) (by decide) rfl ?_
    exact g_iret C R dX10_settles_14 (fst_of h) (snd_of h)
  · refine g_iload_n C dX10_settles_4 rfl rfl ?_
    refine g_iconst (v := (1 : Int32)) C dX10_settles_5 (by decide) ?_
    refine g_icmp_le (tgt := 15) C dX10_settles_6 (by decide) h (fun h => ?_) (fun h => ?_)
    · refine g_aload_n C dX10_settles_15 rfl rfl ?_
      refine get_X10_72 C dX10_settles_16 (by decide) ?_
      refine g_aload_n C dX10_settles_19 rfl rfl ?_
      refine get_X10_19 C dX10_settles_20 (by decide) ?_
      refine get_X10_182 C dX10_settles_23 (by decide) ?_
      obtain ⟨M2, hr2, h⟩ := Option.bind_eq_some_iff.mp h
      refine call_X10_324 C dX10_settles_26 (by decide) (c_X3_copyFrom E (by decide) (by decide) hr2) (by decide) rfl ?_
      refine g_aload_n C dX10_settles_29 rfl rfl ?_
      refine get_X10_65 C dX10_settles_30 (by decide) ?_
      refine g_aload_n C dX10_settles_33 rfl rfl ?_
      refine get_X10_19 C dX10_settles_34 (by decide) ?_
      refine get_X10_175 C dX10_settles_37 (by decide) ?_
      refine g_aload_n C dX10_settles_40 rfl rfl ?_
      refine get_X10_72 C dX10_settles_41 (by decide) ?_
      obtain ⟨q3, hr3, h⟩ := Option.bind_eq_some_iff.mp h
      refine call_X10_336 C dX10_settles_44 (by decide) (c_X0_settle E (by decide) (by decide) hr3) (by decide) rfl ?_
      refine g_if_ne (tgt := 57) C dX10_settles_47 (by decide) h (fun h => ?_) (fun h => ?_)
      · refine g_aload_n C dX10_settles_57 rfl rfl ?_
        refine g_iload_n C dX10_settles_58 rfl rfl ?_
        refine g_if_ne (tgt := 72) C dX10_settles_59 (by decide) h (fun h => ?_) (fun h => ?_)
        · refine g_aload_n C dX10_settles_72 rfl rfl ?_
          refine get_X10_65 C dX10_settles_73 (by decide) ?_
          refine get_X10_343 C dX10_settles_76 (by decide) ?_
          obtain ⟨q4, hr4, h⟩ := Option.bind_eq_some_iff.mp h
          refine call_X10_197 C dX10_settles_79 (by decide) (c_X10_answer E hr4) (by decide) rfl ?_
          exact g_iret C R dX10_settles_82 (fst_of h) (snd_of h)
        · refine g_aload_n C dX10_settles_62 rfl rfl ?_
          refine get_X10_65 C dX10_settles_63 (by decide) ?_
          refine get_X10_340 C dX10_settles_66 (by decide) ?_
          refine g_goto (tgt := 79) C dX10_settles_69 (by decide) ?_
          obtain ⟨q5, hr5, h⟩ := Option.bind_eq_some_iff.mp h
          refine call_X10_197 C dX10_settles_79 (by decide) (c_X10_answer E hr5) (by decide) rfl ?_
          exact g_iret C R dX10_settles_82 (fst_of h) (snd_of h)
      · refine g_aload_n C dX10_settles_50 rfl rfl ?_
        refine g_bipush (v := (8 : Int32)) C dX10_settles_51 (by decide) ?_
        obtain ⟨q6, hr6, h⟩ := Option.bind_eq_some_iff.mp h
        refine call_X10_133 C dX10_settles_53 (by decide) (c_X10_none E hr6) (by decide) rfl ?_
        exact g_iret C R dX10_settles_56 (fst_of h) (snd_of h)
    · refine g_aload_n C dX10_settles_9 rfl rfl ?_
      refine g_iconst (v := (5 : Int32)) C dX10_settles_10 (by decide) ?_
      obtain ⟨q7, hr7, h⟩ := Option.bind_eq_some_iff.mp h
      refine call_X10_133 C dX10_settles_11 (by decide) (c_X10_none E hr7) (by decide) rfl ?_
      exact g_iret C R dX10_settles_14 (fst_of h) (snd_of h)
noncomputable def f_X10_after (x1 : Int32) (M : Mem) : Option (Int32 × Mem) :=
  if x1 < 0 then
    (f_X10_none (5 : Int32) M).bind fun q1 =>
    some (q1.1, q1.2)
  else
    if (200 : Int32) < x1 then
      (f_X10_none (5 : Int32) M).bind fun q6 =>
      some (q6.1, q6.2)
    else
      (f_X3_copyFrom 4 0 M).bind fun M2 =>
      (f_X3_talkOn 4 0 x1 M2).bind fun M3 =>
      (f_X3_ruling 4 (M3.1 8 0 12) M3).bind fun r4 =>
      (f_X10_answer r4 M3).bind fun q5 =>
      some (q5.1, q5.2)
set_option maxRecDepth 20000 in
set_option maxHeartbeats 2000000 in
theorem c_X10_after (E : wEnv) {x1 : Int32} {M : Mem} {q : (Int32 × Mem)} (h : f_X10_after x1 M = some q) : Mt E yX10_after cX10_after 2 (some .int) 5 [.ref (ad E 0 0), .int x1] M (some (.int q.1)) q.2 := by
  unfold f_X10_after at h
  refine mt_intro (own := RX10) (lv0 := [(0, .ref (ad E 0 0)), (1, .int x1)]) (by decide) rfl rfl rfl (fun Y C R => ?_)
  refine g_iload_n C dX10_after_0 rfl rfl ?_
  refine g_if_lt (tgt := 11) C dX10_after_1 (by decide) h (fun h => ?_) (fun h => ?_)
  · refine g_aload_n C dX10_after_11 rfl rfl ?_
    refine g_iconst (v := (5 : Int32)) C dX10_after_12 (by decide) ?_
    obtain ⟨q1, hr1, h⟩ := Option.bind_eq_some_iff.mp h
    refine call_X10_133 C dX10_after_13 (by decide) (c_X10_none E hr1) (by decide) rfl ?_
    exact g_iret C R dX10_after_16 (fst_of h) (snd_of h)
  · refine g_iload_n C dX10_after_4 rfl rfl ?_
    refine g_sipush (v := (200 : Int32)) C dX10_after_5 (by decide) ?_
    refine g_icmp_le (tgt := 17) C dX10_after_8 (by decide) h (fun h => ?_) (fun h => ?_)
    · refine g_aload_n C dX10_after_17 rfl rfl ?_
      refine get_X10_72 C dX10_after_18 (by decide) ?_
      refine g_aload_n C dX10_after_21 rfl rfl ?_
      refine get_X10_19 C dX10_after_22 (by decide) ?_
      refine get_X10_182 C dX10_after_25 (by decide) ?_
      obtain ⟨M2, hr2, h⟩ := Option.bind_eq_some_iff.mp h
      refine call_X10_324 C dX10_after_28 (by decide) (c_X3_copyFrom E (by decide) (by decide) hr2) (by decide) rfl ?_
      refine g_aload_n C dX10_after_31 rfl rfl ?_
      refine get_X10_72 C dX10_after_32 (by decide) ?_
      refine g_aload_n C dX10_after_35 rfl rfl ?_
      refine get_X10_19 C dX10_after_36 (by decide) ?_
      refine get_X10_175 C dX10_after_39 (by decide) ?_
      refine g_iload_n C dX10_after_42 rfl rfl ?_
      obtain ⟨M3, hr3, h⟩ := Option.bind_eq_some_iff.mp h
      refine call_X10_282 C dX10_after_43 (by decide) (c_X3_talkOn E (by decide) (by decide) hr3) (by decide) rfl ?_
      refine g_aload_n C dX10_after_46 rfl rfl ?_
      refine g_aload_n C dX10_after_47 rfl rfl ?_
      refine get_X10_72 C dX10_after_48 (by decide) ?_
      refine g_aload_n C dX10_after_51 rfl rfl ?_
      refine get_X10_19 C dX10_after_52 (by decide) ?_
      refine get_X10_175 C dX10_after_55 (by decide) ?_
      refine get_X10_213 C dX10_after_58 (by decide) ?_
      obtain ⟨r4, hr4, h⟩ := Option.bind_eq_some_iff.mp h
      refine call_X10_286 C dX10_after_61 (by decide) (c_X3_ruling E (by decide) hr4) (by decide) rfl ?_
      obtain ⟨q5, hr5, h⟩ := Option.bind_eq_some_iff.mp h
      refine call_X10_197 C dX10_after_64 (by decide) (c_X10_answer E hr5) (by decide) rfl ?_
      exact g_iret C R dX10_after_67 (fst_of h) (snd_of h)
    · refine g_aload_n C dX10_after_11 rfl rfl ?_
      refine g_iconst (v := (5 : Int32)) C dX10_after_12 (by decide) ?_
      obtain ⟨q6, hr6, h⟩ := Option.bind_eq_some_iff.mp h
      refine call_X10_133 C dX10_after_13 (by decide) (c_X10_none E hr6) (by decide) rfl ?_
      exact g_iret C R dX10_after_16 (fst_of h) (snd_of h)
noncomputable def f_X10_soonest_30 (x1 : Int32) : Nat → Int32 → Mem → Option (Int32 × Mem)
  | 0, _, _ => none
  | n + 1, x2, M =>
  if (200 : Int32) < x2 then
    (f_X10_none (8 : Int32) M).bind fun q3 =>
    some (q3.1, q3.2)
  else
    (f_X3_ruling 4 (M.1 8 0 12) M).bind fun r4 =>
    if r4 = x1 then
      (f_X10_answer x2 M).bind fun q6 =>
      some (q6.1, q6.2)
    else
      (f_X3_talkOn 4 0 (1 : Int32) M).bind fun M5 =>
      f_X10_soonest_30 x1 n (x2 + (1 : Int32)) M5
noncomputable def f_X10_soonest (x1 : Int32) (M : Mem) : Option (Int32 × Mem) :=
  (f_X10_isNoVerdict x1.toInt64).bind fun r1 =>
  if r1 = 0 then
    (f_X3_copyFrom 4 0 M).bind fun M2 =>
    f_X10_soonest_30 x1 FU (0 : Int32) M2
  else
    (f_X10_none (5 : Int32) M).bind fun q7 =>
    some (q7.1, q7.2)
set_option maxRecDepth 20000 in
set_option maxHeartbeats 2000000 in
theorem b_X10_soonest_30 {E : wEnv} {Y : YT} (C : Cx E Y cX10_soonest 3 RX10 5) {q : (Int32 × Mem)} (R : Rx E Y (some .int) (some (.int q.1)) q.2) {x1 : Int32} (n : Nat) : ∀ {x2 : Int32} {M : Mem} (_ : f_X10_soonest_30 x1 n x2 M = some q), G E Y 3 M 30 [(0, .ref (ad E 0 0)), (1, .int x1), (2, .int x2)] [] := by
  induction n with
  | zero =>
    intro x2 M h
    cases (show none = some q from h)
  | succ n ih =>
    intro x2 M h
    rw [f_X10_soonest_30] at h
    refine g_iload_n C dX10_soonest_30 rfl rfl ?_
    refine g_sipush (v := (200 : Int32)) C dX10_soonest_31 (by decide) ?_
    refine g_icmp_gt (tgt := 85) C dX10_soonest_34 (by decide) h (fun h => ?_) (fun h => ?_)
    · refine g_aload_n C dX10_soonest_85 rfl rfl ?_
      refine g_bipush (v := (8 : Int32)) C dX10_soonest_86 (by decide) ?_
      obtain ⟨q3, hr3, h⟩ := Option.bind_eq_some_iff.mp h
      refine call_X10_133 C dX10_soonest_88 (by decide) (c_X10_none E hr3) (by decide) rfl ?_
      exact g_iret C R dX10_soonest_91 (fst_of h) (snd_of h)
    · refine g_aload_n C dX10_soonest_37 rfl rfl ?_
      refine get_X10_72 C dX10_soonest_38 (by decide) ?_
      refine g_aload_n C dX10_soonest_41 rfl rfl ?_
      refine get_X10_19 C dX10_soonest_42 (by decide) ?_
      refine get_X10_175 C dX10_soonest_45 (by decide) ?_
      refine get_X10_213 C dX10_soonest_48 (by decide) ?_
      obtain ⟨r4, hr4, h⟩ := Option.bind_eq_some_iff.mp h
      refine call_X10_286 C dX10_soonest_51 (by decide) (c_X3_ruling E (by decide) hr4) (by decide) rfl ?_
      refine g_iload_n C dX10_soonest_54 rfl rfl ?_
      refine g_icmp_ne (tgt := 64) C dX10_soonest_55 (by decide) h (fun h => ?_) (fun h => ?_)
      · refine g_aload_n C dX10_soonest_64 rfl rfl ?_
        refine get_X10_72 C dX10_soonest_65 (by decide) ?_
        refine g_aload_n C dX10_soonest_68 rfl rfl ?_
        refine get_X10_19 C dX10_soonest_69 (by decide) ?_
        refine get_X10_175 C dX10_soonest_72 (by decide) ?_
        refine g_iconst (v := (1 : Int32)) C dX10_soonest_75 (by decide) ?_
        obtain ⟨M5, hr5, h⟩ := Option.bind_eq_some_iff.mp h
        refine call_X10_282 C dX10_soonest_76 (by decide) (c_X3_talkOn E (by decide) (by decide) hr5) (by decide) rfl ?_
        refine g_iinc (w := (1 : Int32)) C dX10_soonest_79 rfl (by decide) rfl ?_
        refine g_goto (tgt := 30) C dX10_soonest_82 (by decide) ?_
        exact g_sub (ih h) ⟨rfl, rfl, rfl, trivial⟩
      · refine g_aload_n C dX10_soonest_58 rfl rfl ?_
        refine g_iload_n C dX10_soonest_59 rfl rfl ?_
        obtain ⟨q6, hr6, h⟩ := Option.bind_eq_some_iff.mp h
        refine call_X10_197 C dX10_soonest_60 (by decide) (c_X10_answer E hr6) (by decide) rfl ?_
        exact g_iret C R dX10_soonest_63 (fst_of h) (snd_of h)
set_option maxRecDepth 20000 in
set_option maxHeartbeats 2000000 in
theorem c_X10_soonest (E : wEnv) {x1 : Int32} {M : Mem} {q : (Int32 × Mem)} (h : f_X10_soonest x1 M = some q) : Mt E yX10_soonest cX10_soonest 3 (some .int) 5 [.ref (ad E 0 0), .int x1] M (some (.int q.1)) q.2 := by
  unfold f_X10_soonest at h
  refine mt_intro (own := RX10) (lv0 := [(0, .ref (ad E 0 0)), (1, .int x1)]) (by decide) rfl rfl rfl (fun Y C R => ?_)
  refine g_iload_n C dX10_soonest_0 rfl rfl ?_
  refine g_i2l C dX10_soonest_1 ?_
  obtain ⟨r1, hr1, h⟩ := Option.bind_eq_some_iff.mp h
  refine call_X10_259 C dX10_soonest_2 (c_X10_isNoVerdict E hr1) (by decide) rfl ?_
  refine g_if_eq (tgt := 14) C dX10_soonest_5 (by decide) h (fun h => ?_) (fun h => ?_)
  · refine g_aload_n C dX10_soonest_14 rfl rfl ?_
    refine get_X10_72 C dX10_soonest_15 (by decide) ?_
    refine g_aload_n C dX10_soonest_18 rfl rfl ?_
    refine get_X10_19 C dX10_soonest_19 (by decide) ?_
    refine get_X10_182 C dX10_soonest_22 (by decide) ?_
    obtain ⟨M2, hr2, h⟩ := Option.bind_eq_some_iff.mp h
    refine call_X10_324 C dX10_soonest_25 (by decide) (c_X3_copyFrom E (by decide) (by decide) hr2) (by decide) rfl ?_
    refine g_iconst (v := (0 : Int32)) C dX10_soonest_28 (by decide) ?_
    refine g_istore_n C dX10_soonest_29 rfl rfl ?_
    exact g_sub (b_X10_soonest_30 C R _ h) ⟨rfl, rfl, rfl, trivial⟩
  · refine g_aload_n C dX10_soonest_8 rfl rfl ?_
    refine g_iconst (v := (5 : Int32)) C dX10_soonest_9 (by decide) ?_
    obtain ⟨q7, hr7, h⟩ := Option.bind_eq_some_iff.mp h
    refine call_X10_133 C dX10_soonest_10 (by decide) (c_X10_none E hr7) (by decide) rfl ?_
    exact g_iret C R dX10_soonest_13 (fst_of h) (snd_of h)
noncomputable def f_X10_bestOrder (x1 : Int32) (M : Mem) : Option (Int32 × Mem) :=
  (f_X10_isNoVerdict x1.toInt64).bind fun r1 =>
  if r1 = 0 then
    (f_X0_findOrder 0 0 x1 M).bind fun q2 =>
    if q2.1 = 0 then
      (f_X10_none (8 : Int32) q2.2).bind fun q4 =>
      some (q4.1, q4.2)
    else
      (f_X10_answer (q2.2.1 36 0 7) q2.2).bind fun q3 =>
      some (q3.1, q3.2)
  else
    (f_X10_none (5 : Int32) M).bind fun q5 =>
    some (q5.1, q5.2)
set_option maxRecDepth 20000 in
set_option maxHeartbeats 2000000 in
theorem c_X10_bestOrder (E : wEnv) {x1 : Int32} {M : Mem} {q : (Int32 × Mem)} (h : f_X10_bestOrder x1 M = some q) : Mt E yX10_bestOrder cX10_bestOrder 2 (some .int) 47 [.ref (ad E 0 0), .int x1] M (some (.int q.1)) q.2 := by
  unfold f_X10_bestOrder at h
  refine mt_intro (own := RX10) (lv0 := [(0, .ref (ad E 0 0)), (1, .int x1)]) (by decide) rfl rfl rfl (fun Y C R => ?_)
  refine g_iload_n C dX10_bestOrder_0 rfl rfl ?_
  refine g_i2l C dX10_bestOrder_1 ?_
  obtain ⟨r1, hr1, h⟩ := Option.bind_eq_some_iff.mp h
  refine call_X10_259 C dX10_bestOrder_2 (c_X10_isNoVerdict E hr1) (by decide) rfl ?_
  refine g_if_eq (tgt := 14) C dX10_bestOrder_5 (by decide) h (fun h => ?_) (fun h => ?_)
  · refine g_aload_n C dX10_bestOrder_14 rfl rfl ?_
    refine get_X10_65 C dX10_bestOrder_15 (by decide) ?_
    refine g_aload_n C dX10_bestOrder_18 rfl rfl ?_
    refine get_X10_19 C dX10_bestOrder_19 (by decide) ?_
    refine get_X10_175 C dX10_bestOrder_22 (by decide) ?_
    refine g_aload_n C dX10_bestOrder_25 rfl rfl ?_
    refine get_X10_19 C dX10_bestOrder_26 (by decide) ?_
    refine get_X10_182 C dX10_bestOrder_29 (by decide) ?_
    refine g_iload_n C dX10_bestOrder_32 rfl rfl ?_
    obtain ⟨q2, hr2, h⟩ := Option.bind_eq_some_iff.mp h
    refine call_X10_346 C dX10_bestOrder_33 (by decide) (c_X0_findOrder E (by decide) (by decide) hr2) (by decide) rfl ?_
    refine g_if_ne (tgt := 46) C dX10_bestOrder_36 (by decide) h (fun h => ?_) (fun h => ?_)
    · refine g_aload_n C dX10_bestOrder_46 rfl rfl ?_
      refine g_aload_n C dX10_bestOrder_47 rfl rfl ?_
      refine get_X10_65 C dX10_bestOrder_48 (by decide) ?_
      refine get_X10_350 C dX10_bestOrder_51 (by decide) ?_
      obtain ⟨q3, hr3, h⟩ := Option.bind_eq_some_iff.mp h
      refine call_X10_197 C dX10_bestOrder_54 (by decide) (c_X10_answer E hr3) (by decide) rfl ?_
      exact g_iret C R dX10_bestOrder_57 (fst_of h) (snd_of h)
    · refine g_aload_n C dX10_bestOrder_39 rfl rfl ?_
      refine g_bipush (v := (8 : Int32)) C dX10_bestOrder_40 (by decide) ?_
      obtain ⟨q4, hr4, h⟩ := Option.bind_eq_some_iff.mp h
      refine call_X10_133 C dX10_bestOrder_42 (by decide) (c_X10_none E hr4) (by decide) rfl ?_
      exact g_iret C R dX10_bestOrder_45 (fst_of h) (snd_of h)
  · refine g_aload_n C dX10_bestOrder_8 rfl rfl ?_
    refine g_iconst (v := (5 : Int32)) C dX10_bestOrder_9 (by decide) ?_
    obtain ⟨q5, hr5, h⟩ := Option.bind_eq_some_iff.mp h
    refine call_X10_133 C dX10_bestOrder_10 (by decide) (c_X10_none E hr5) (by decide) rfl ?_
    exact g_iret C R dX10_bestOrder_13 (fst_of h) (snd_of h)
noncomputable def f_X10_orderAt (x1 : Int32) (M : Mem) : Option (Int32 × Mem) :=
  if x1 < 0 then
    (f_X10_none (8 : Int32) M).bind fun q1 =>
    some (q1.1, q1.2)
  else
    if x1 < (M.1 36 0 7) then
      if inb x1 4 = true then
       (f_X10_answer (M.1 42 0 x1.toNatClampNeg) M).bind fun q3 =>
       some (q3.1, q3.2)
      else none
    else
      (f_X10_none (8 : Int32) M).bind fun q4 =>
      some (q4.1, q4.2)
set_option maxRecDepth 20000 in
set_option maxHeartbeats 2000000 in
theorem c_X10_orderAt (E : wEnv) {x1 : Int32} {M : Mem} {q : (Int32 × Mem)} (h : f_X10_orderAt x1 M = some q) : Mt E yX10_orderAt cX10_orderAt 2 (some .int) 1 [.ref (ad E 0 0), .int x1] M (some (.int q.1)) q.2 := by
  unfold f_X10_orderAt at h
  refine mt_intro (own := RX10) (lv0 := [(0, .ref (ad E 0 0)), (1, .int x1)]) (by decide) rfl rfl rfl (fun Y C R => ?_)
  refine g_iload_n C dX10_orderAt_0 rfl rfl ?_
  refine g_if_lt (tgt := 15) C dX10_orderAt_1 (by decide) h (fun h => ?_) (fun h => ?_)
  · refine g_aload_n C dX10_orderAt_15 rfl rfl ?_
    refine g_bipush (v := (8 : Int32)) C dX10_orderAt_16 (by decide) ?_
    obtain ⟨q1, hr1, h⟩ := Option.bind_eq_some_iff.mp h
    refine call_X10_133 C dX10_orderAt_18 (by decide) (c_X10_none E hr1) (by decide) rfl ?_
    exact g_iret C R dX10_orderAt_21 (fst_of h) (snd_of h)
  · refine g_iload_n C dX10_orderAt_4 rfl rfl ?_
    refine g_aload_n C dX10_orderAt_5 rfl rfl ?_
    refine get_X10_65 C dX10_orderAt_6 (by decide) ?_
    refine get_X10_350 C dX10_orderAt_9 (by decide) ?_
    refine g_icmp_lt (tgt := 22) C dX10_orderAt_12 (by decide) h (fun h => ?_) (fun h => ?_)
    · refine g_aload_n C dX10_orderAt_22 rfl rfl ?_
      refine g_aload_n C dX10_orderAt_23 rfl rfl ?_
      refine get_X10_65 C dX10_orderAt_24 (by decide) ?_
      refine get_X10_353 C dX10_orderAt_27 (by decide) ?_
      refine g_iload_n C dX10_orderAt_30 rfl rfl ?_
      obtain ⟨hb2, h⟩ := of_ite h
      refine ld_42 (j := _) C dX10_orderAt_31 (by decide) hb2 rfl ?_
      obtain ⟨q3, hr3, h⟩ := Option.bind_eq_some_iff.mp h
      refine call_X10_197 C dX10_orderAt_32 (by decide) (c_X10_answer E hr3) (by decide) rfl ?_
      exact g_iret C R dX10_orderAt_35 (fst_of h) (snd_of h)
    · refine g_aload_n C dX10_orderAt_15 rfl rfl ?_
      refine g_bipush (v := (8 : Int32)) C dX10_orderAt_16 (by decide) ?_
      obtain ⟨q4, hr4, h⟩ := Option.bind_eq_some_iff.mp h
      refine call_X10_133 C dX10_orderAt_18 (by decide) (c_X10_none E hr4) (by decide) rfl ?_
      exact g_iret C R dX10_orderAt_21 (fst_of h) (snd_of h)
noncomputable def f_X10_isNoFewRounds (x0 : Int32) : Option Int32 :=
  if x0 < 0 then
    some (1 : Int32)
  else
    if (9 : Int32) < x0 then
      some (1 : Int32)
    else
      some (0 : Int32)
set_option maxRecDepth 20000 in
set_option maxHeartbeats 2000000 in
theorem c_X10_isNoFewRounds (E : wEnv) {x0 : Int32} {M : Mem} {q : Int32} (h : f_X10_isNoFewRounds x0 = some q) : Mt E yX10_isNoFewRounds cX10_isNoFewRounds 1 (some .boolean) 0 [.int x0] M (some (.int q)) M := by
  unfold f_X10_isNoFewRounds at h
  refine mt_intro (own := RX10) (lv0 := [(0, .int x0)]) (by decide) rfl rfl rfl (fun Y C R => ?_)
  refine g_iload_n C dX10_isNoFewRounds_0 rfl rfl ?_
  refine g_if_lt (tgt := 10) C dX10_isNoFewRounds_1 (by decide) h (fun h => ?_) (fun h => ?_)
  · refine g_iconst (v := (1 : Int32)) C dX10_isNoFewRounds_10 (by decide) ?_
    refine g_goto (tgt := 15) C dX10_isNoFewRounds_11 (by decide) ?_
    exact g_zret C R dX10_isNoFewRounds_15 (Option.some.inj h) (Or.inr rfl) rfl
  · refine g_iload_n C dX10_isNoFewRounds_4 rfl rfl ?_
    refine g_bipush (v := (9 : Int32)) C dX10_isNoFewRounds_5 (by decide) ?_
    refine g_icmp_le (tgt := 14) C dX10_isNoFewRounds_7 (by decide) h (fun h => ?_) (fun h => ?_)
    · refine g_iconst (v := (0 : Int32)) C dX10_isNoFewRounds_14 (by decide) ?_
      exact g_zret C R dX10_isNoFewRounds_15 (Option.some.inj h) (Or.inl rfl) rfl
    · refine g_iconst (v := (1 : Int32)) C dX10_isNoFewRounds_10 (by decide) ?_
      refine g_goto (tgt := 15) C dX10_isNoFewRounds_11 (by decide) ?_
      exact g_zret C R dX10_isNoFewRounds_15 (Option.some.inj h) (Or.inr rfl) rfl
noncomputable def f_X10_wins_17 (x1 : Int32) (x2 : Int32) (x3 : Int32) (x4 : Int32) : Nat → Int32 → Mem → Option (Int32 × Mem)
  | 0, _, _ => none
  | n + 1, x5, M =>
  if x5 < (10 : Int32) then
    if ((x1 >>> (x5 &&& 31)) &&& (1 : Int32)) = 0 then
      f_X10_wins_17 x1 x2 x3 x4 n (x5 + (1 : Int32)) M
    else
      if inb x5 10 = true then
       let M5 := sR M 21 4 (upd (M.1 21 4) x5.toNatClampNeg (x3 * (99 : Int32)))
       f_X10_wins_17 x1 x2 x3 x4 n (x5 + (1 : Int32)) M5
      else none
  else
    (f_X3_talkOn 4 0 x4 M).bind fun M2 =>
    (f_X3_ruling 4 (M2.1 8 0 12) M2).bind fun r3 =>
    if r3 = x2 then
      some ((1 : Int32), M2)
    else
      some ((0 : Int32), M2)
noncomputable def f_X10_wins (x1 : Int32) (x2 : Int32) (x3 : Int32) (x4 : Int32) (M : Mem) : Option (Int32 × Mem) :=
  (f_X3_copyFrom 4 0 M).bind fun M1 =>
  f_X10_wins_17 x1 x2 x3 x4 FU (0 : Int32) M1
set_option maxRecDepth 20000 in
set_option maxHeartbeats 2000000 in
theorem b_X10_wins_17 {E : wEnv} {Y : YT} (C : Cx E Y cX10_wins 6 RX10 5) {q : (Int32 × Mem)} (R : Rx E Y (some .boolean) (some (.int q.1)) q.2) {x1 : Int32} {x2 : Int32} {x3 : Int32} {x4 : Int32} (n : Nat) : ∀ {x5 : Int32} {M : Mem} (_ : f_X10_wins_17 x1 x2 x3 x4 n x5 M = some q), G E Y 6 M 17 [(0, .ref (ad E 0 0)), (1, .int x1), (2, .int x2), (3, .int x3), (4, .int x4), (5, .int x5)] [] := by
  induction n with
  | zero =>
    intro x5 M h
    cases (show none = some q from h)
  | succ n ih =>
    intro x5 M h
    rw [f_X10_wins_17] at h
    refine g_iload C dX10_wins_17 rfl ?_
    refine g_bipush (v := (10 : Int32)) C dX10_wins_19 (by decide) ?_
    refine g_icmp_ge (tgt := 53) C dX10_wins_21 (by decide) h (fun h => ?_) (fun h => ?_)
    · refine g_aload_n C dX10_wins_53 rfl rfl ?_
      refine get_X10_72 C dX10_wins_54 (by decide) ?_
      refine g_aload_n C dX10_wins_57 rfl rfl ?_
      refine get_X10_19 C dX10_wins_58 (by decide) ?_
      refine get_X10_175 C dX10_wins_61 (by decide) ?_
      refine g_iload C dX10_wins_64 rfl ?_
      obtain ⟨M2, hr2, h⟩ := Option.bind_eq_some_iff.mp h
      refine call_X10_282 C dX10_wins_66 (by decide) (c_X3_talkOn E (by decide) (by decide) hr2) (by decide) rfl ?_
      refine g_aload_n C dX10_wins_69 rfl rfl ?_
      refine get_X10_72 C dX10_wins_70 (by decide) ?_
      refine g_aload_n C dX10_wins_73 rfl rfl ?_
      refine get_X10_19 C dX10_wins_74 (by decide) ?_
      refine get_X10_175 C dX10_wins_77 (by decide) ?_
      refine get_X10_213 C dX10_wins_80 (by decide) ?_
      obtain ⟨r3, hr3, h⟩ := Option.bind_eq_some_iff.mp h
      refine call_X10_286 C dX10_wins_83 (by decide) (c_X3_ruling E (by decide) hr3) (by decide) rfl ?_
      refine g_iload_n C dX10_wins_86 rfl rfl ?_
      refine g_icmp_ne (tgt := 94) C dX10_wins_87 (by decide) h (fun h => ?_) (fun h => ?_)
      · refine g_iconst (v := (0 : Int32)) C dX10_wins_94 (by decide) ?_
        exact g_zret C R dX10_wins_95 (fst_of h) (Or.inl rfl) (snd_of h)
      · refine g_iconst (v := (1 : Int32)) C dX10_wins_90 (by decide) ?_
        refine g_goto (tgt := 95) C dX10_wins_91 (by decide) ?_
        exact g_zret C R dX10_wins_95 (fst_of h) (Or.inr rfl) (snd_of h)
    · refine g_iload_n C dX10_wins_24 rfl rfl ?_
      refine g_iload C dX10_wins_25 rfl ?_
      refine g_ishr C dX10_wins_27 ?_
      refine g_iconst (v := (1 : Int32)) C dX10_wins_28 (by decide) ?_
      refine g_iand C dX10_wins_29 ?_
      refine g_if_eq (tgt := 47) C dX10_wins_30 (by decide) h (fun h => ?_) (fun h => ?_)
      · refine g_iinc (w := (1 : Int32)) C dX10_wins_47 rfl (by decide) rfl ?_
        refine g_goto (tgt := 17) C dX10_wins_50 (by decide) ?_
        exact g_sub (ih h) ⟨rfl, rfl, rfl, rfl, rfl, rfl, trivial⟩
      · refine g_aload_n C dX10_wins_33 rfl rfl ?_
        refine get_X10_72 C dX10_wins_34 (by decide) ?_
        refine get_X10_241 C dX10_wins_37 (by decide) ?_
        refine g_iload C dX10_wins_40 rfl ?_
        refine g_iload_n C dX10_wins_42 rfl rfl ?_
        refine g_bipush (v := (99 : Int32)) C dX10_wins_43 (by decide) ?_
        refine g_imul C dX10_wins_45 ?_
        obtain ⟨hb4, h⟩ := of_ite h
        refine st_21 (j := _) C dX10_wins_46 (by decide) hb4 rfl ?_
        refine g_iinc (w := (1 : Int32)) C dX10_wins_47 rfl (by decide) rfl ?_
        refine g_goto (tgt := 17) C dX10_wins_50 (by decide) ?_
        exact g_sub (ih h) ⟨rfl, rfl, rfl, rfl, rfl, rfl, trivial⟩
set_option maxRecDepth 20000 in
set_option maxHeartbeats 2000000 in
theorem c_X10_wins (E : wEnv) {x1 : Int32} {x2 : Int32} {x3 : Int32} {x4 : Int32} {M : Mem} {q : (Int32 × Mem)} (h : f_X10_wins x1 x2 x3 x4 M = some q) : Mt E yX10_wins cX10_wins 6 (some .boolean) 5 [.ref (ad E 0 0), .int x1, .int x2, .int x3, .int x4] M (some (.int q.1)) q.2 := by
  unfold f_X10_wins at h
  refine mt_intro (own := RX10) (lv0 := [(0, .ref (ad E 0 0)), (1, .int x1), (2, .int x2), (3, .int x3), (4, .int x4)]) (by decide) rfl rfl rfl (fun Y C R => ?_)
  refine g_aload_n C dX10_wins_0 rfl rfl ?_
  refine get_X10_72 C dX10_wins_1 (by decide) ?_
  refine g_aload_n C dX10_wins_4 rfl rfl ?_
  refine get_X10_19 C dX10_wins_5 (by decide) ?_
  refine get_X10_182 C dX10_wins_8 (by decide) ?_
  obtain ⟨M1, hr1, h⟩ := Option.bind_eq_some_iff.mp h
  refine call_X10_324 C dX10_wins_11 (by decide) (c_X3_copyFrom E (by decide) (by decide) hr1) (by decide) rfl ?_
  refine g_iconst (v := (0 : Int32)) C dX10_wins_14 (by decide) ?_
  refine g_istore C dX10_wins_15 rfl ?_
  exact g_sub (b_X10_wins_17 C R _ h) ⟨rfl, rfl, rfl, rfl, rfl, rfl, trivial⟩
noncomputable def f_X10_cheapestSet_76 (k30 : Int32 → Int32 → Int32 → Mem → Option (Int32 × Mem)) (x1 : Int32) (x2 : Int32) (x3 : Int32) (i4 : Nat) (x5 : Int32) (x6 : Int32) (x7 : Int32) (x8 : Int32) (x9 : Int32) (M : Mem) : Option (Int32 × Mem) :=
  (f_X10_wins x8 x1 x2 x3 M).bind fun q2 =>
  if q2.1 = 0 then
    k30 x6 x7 (x8 + (1 : Int32)) q2.2
  else
    k30 x8 x9 (x8 + (1 : Int32)) q2.2
noncomputable def f_X10_cheapestSet_30 (x1 : Int32) (x2 : Int32) (x3 : Int32) (i4 : Nat) (x5 : Int32) : Nat → Int32 → Int32 → Int32 → Mem → Option (Int32 × Mem)
  | 0, _, _, _, _ => none
  | n + 1, x6, x7, x8, M =>
  if x8 < ((1 : Int32) <<< ((M.1 9 i4 0) &&& 31)) then
    if (x8 &&& x5) = x8 then
      (f_X1_priceOf i4 x8 M).bind fun r1 =>
      if x6 = (-1 : Int32) then
        f_X10_cheapestSet_76 (fun x6_3 x7_3 x8_3 M_3 =>
            f_X10_cheapestSet_30 x1 x2 x3 i4 x5 n x6_3 x7_3 x8_3 M_3) x1 x2 x3 i4 x5 x6 x7 x8 r1 M
      else
        if r1 < x7 then
          f_X10_cheapestSet_76 (fun x6_4 x7_4 x8_4 M_4 =>
              f_X10_cheapestSet_30 x1 x2 x3 i4 x5 n x6_4 x7_4 x8_4 M_4) x1 x2 x3 i4 x5 x6 x7 x8 r1 M
        else
          f_X10_cheapestSet_30 x1 x2 x3 i4 x5 n x6 x7 (x8 + (1 : Int32)) M
    else
      f_X10_cheapestSet_30 x1 x2 x3 i4 x5 n x6 x7 (x8 + (1 : Int32)) M
  else
    some (x6, M)
noncomputable def f_X10_cheapestSet (x1 : Int32) (x2 : Int32) (x3 : Int32) (M : Mem) : Option (Int32 × Mem) :=
  f_X10_cheapestSet_30 x1 x2 x3 0 (M.1 20 0 2) FU (-1 : Int32) (0 : Int32) (0 : Int32) M
set_option maxRecDepth 20000 in
set_option maxHeartbeats 2000000 in
theorem b_X10_cheapestSet_76 {E : wEnv} {Y : YT} (C : Cx E Y cX10_cheapestSet 10 RX10 6) {q : (Int32 × Mem)} (R : Rx E Y (some .int) (some (.int q.1)) q.2) {x1 : Int32} {x2 : Int32} {x3 : Int32} {i4 : Nat} {x5 : Int32} {x6 : Int32} {x7 : Int32} {x8 : Int32} {x9 : Int32} (hi4 : i4 < cnt 8) {k30 : Int32 → Int32 → Int32 → Mem → Option (Int32 × Mem)} (hk30 : ∀ {x6 : Int32} {x7 : Int32} {x8 : Int32} {M : Mem} , k30 x6 x7 x8 M = some q → G E Y 10 M 30 [(0, .ref (ad E 0 0)), (1, .int x1), (2, .int x2), (3, .int x3), (4, .ref (ad E 8 i4)), (5, .int x5), (6, .int x6), (7, .int x7), (8, .int x8)] []) {M : Mem} (h : f_X10_cheapestSet_76 k30 x1 x2 x3 i4 x5 x6 x7 x8 x9 M = some q) : G E Y 10 M 76 [(0, .ref (ad E 0 0)), (1, .int x1), (2, .int x2), (3, .int x3), (4, .ref (ad E 8 i4)), (5, .int x5), (6, .int x6), (7, .int x7), (8, .int x8), (9, .int x9)] [] := by
  unfold f_X10_cheapestSet_76 at h
  refine g_aload_n C dX10_cheapestSet_76 rfl rfl ?_
  refine g_iload C dX10_cheapestSet_77 rfl ?_
  refine g_iload_n C dX10_cheapestSet_79 rfl rfl ?_
  refine g_iload_n C dX10_cheapestSet_80 rfl rfl ?_
  refine g_iload_n C dX10_cheapestSet_81 rfl rfl ?_
  obtain ⟨q2, hr2, h⟩ := Option.bind_eq_some_iff.mp h
  refine call_X10_459 C dX10_cheapestSet_82 (by decide) (c_X10_wins E hr2) (by decide) rfl ?_
  refine g_if_eq (tgt := 96) C dX10_cheapestSet_85 (by decide) h (fun h => ?_) (fun h => ?_)
  · refine g_iinc (w := (1 : Int32)) C dX10_cheapestSet_96 rfl (by decide) rfl ?_
    refine g_goto (tgt := 30) C dX10_cheapestSet_99 (by decide) ?_
    exact g_sub (hk30 h) ⟨rfl, rfl, rfl, rfl, rfl, rfl, rfl, rfl, rfl, trivial⟩
  · refine g_iload C dX10_cheapestSet_88 rfl ?_
    refine g_istore C dX10_cheapestSet_90 rfl ?_
    refine g_iload C dX10_cheapestSet_92 rfl ?_
    refine g_istore C dX10_cheapestSet_94 rfl ?_
    refine g_iinc (w := (1 : Int32)) C dX10_cheapestSet_96 rfl (by decide) rfl ?_
    refine g_goto (tgt := 30) C dX10_cheapestSet_99 (by decide) ?_
    exact g_sub (hk30 h) ⟨rfl, rfl, rfl, rfl, rfl, rfl, rfl, rfl, rfl, trivial⟩
set_option maxRecDepth 20000 in
set_option maxHeartbeats 2000000 in
theorem b_X10_cheapestSet_30 {E : wEnv} {Y : YT} (C : Cx E Y cX10_cheapestSet 10 RX10 6) {q : (Int32 × Mem)} (R : Rx E Y (some .int) (some (.int q.1)) q.2) {x1 : Int32} {x2 : Int32} {x3 : Int32} {i4 : Nat} {x5 : Int32} (hi4 : i4 < cnt 8) (n : Nat) : ∀ {x6 : Int32} {x7 : Int32} {x8 : Int32} {M : Mem} (_ : f_X10_cheapestSet_30 x1 x2 x3 i4 x5 n x6 x7 x8 M = some q), G E Y 10 M 30 [(0, .ref (ad E 0 0)), (1, .int x1), (2, .int x2), (3, .int x3), (4, .ref (ad E 8 i4)), (5, .int x5), (6, .int x6), (7, .int x7), (8, .int x8)] [] := by
  induction n with
  | zero =>
    intro x6 x7 x8 M h
    cases (show none = some q from h)
  | succ n ih =>
    intro x6 x7 x8 M h
    rw [f_X10_cheapestSet_30] at h
    refine g_iload C dX10_cheapestSet_30 rfl ?_
    refine g_iconst (v := (1 : Int32)) C dX10_cheapestSet_32 (by decide) ?_
    refine g_aload C dX10_cheapestSet_33 rfl ?_
    refine get_X10_194 C dX10_cheapestSet_35 hi4 ?_
    refine g_iconst (v := (0 : Int32)) C dX10_cheapestSet_38 (by decide) ?_
    refine ld_9 (j := 0) C dX10_cheapestSet_39 (Nat.lt_of_lt_of_le hi4 (by decide : cnt 8 ≤ cnt 9)) (by decide) rfl ?_
    refine g_ishl C dX10_cheapestSet_40 ?_
    refine g_icmp_ge (tgt := 102) C dX10_cheapestSet_41 (by decide) h (fun h => ?_) (fun h => ?_)
    · refine g_iload C dX10_cheapestSet_102 rfl ?_
      exact g_iret C R dX10_cheapestSet_104 (fst_of h) (snd_of h)
    · refine g_iload C dX10_cheapestSet_44 rfl ?_
      refine g_iload C dX10_cheapestSet_46 rfl ?_
      refine g_iand C dX10_cheapestSet_48 ?_
      refine g_iload C dX10_cheapestSet_49 rfl ?_
      refine g_icmp_ne (tgt := 96) C dX10_cheapestSet_51 (by decide) h (fun h => ?_) (fun h => ?_)
      · refine g_iinc (w := (1 : Int32)) C dX10_cheapestSet_96 rfl (by decide) rfl ?_
        refine g_goto (tgt := 30) C dX10_cheapestSet_99 (by decide) ?_
        exact g_sub (ih h) ⟨rfl, rfl, rfl, rfl, rfl, rfl, rfl, rfl, rfl, trivial⟩
      · refine g_aload C dX10_cheapestSet_54 rfl ?_
        refine g_iload C dX10_cheapestSet_56 rfl ?_
        obtain ⟨r1, hr1, h⟩ := Option.bind_eq_some_iff.mp h
        refine call_X10_365 C dX10_cheapestSet_58 hi4 (c_X1_priceOf E hi4 hr1) (by decide) rfl ?_
        refine g_istore C dX10_cheapestSet_61 rfl ?_
        refine g_iload C dX10_cheapestSet_63 rfl ?_
        refine g_iconst (v := (-1 : Int32)) C dX10_cheapestSet_65 (by decide) ?_
        refine g_icmp_eq (tgt := 76) C dX10_cheapestSet_66 (by decide) h (fun h => ?_) (fun h => ?_)
        · refine g_sub (b_X10_cheapestSet_76 C R hi4 ?_  h) ⟨rfl, rfl, rfl, rfl, rfl, rfl, rfl, rfl, rfl, rfl, trivial⟩
          · clear h
            intro x6_3 x7_3 x8_3 M_3 h
            exact g_sub (ih h) ⟨rfl, rfl, rfl, rfl, rfl, rfl, rfl, rfl, rfl, trivial⟩
        · refine g_iload C dX10_cheapestSet_69 rfl ?_
          refine g_iload C dX10_cheapestSet_71 rfl ?_
          refine g_icmp_ge (tgt := 96) C dX10_cheapestSet_73 (by decide) h (fun h => ?_) (fun h => ?_)
          · refine g_iinc (w := (1 : Int32)) C dX10_cheapestSet_96 rfl (by decide) rfl ?_
            refine g_goto (tgt := 30) C dX10_cheapestSet_99 (by decide) ?_
            exact g_sub (ih h) ⟨rfl, rfl, rfl, rfl, rfl, rfl, rfl, rfl, rfl, trivial⟩
          · refine g_sub (b_X10_cheapestSet_76 C R hi4 ?_  h) ⟨rfl, rfl, rfl, rfl, rfl, rfl, rfl, rfl, rfl, rfl, trivial⟩
            · clear h
              intro x6_4 x7_4 x8_4 M_4 h
              exact g_sub (ih h) ⟨rfl, rfl, rfl, rfl, rfl, rfl, rfl, rfl, rfl, trivial⟩
set_option maxRecDepth 20000 in
set_option maxHeartbeats 2000000 in
theorem c_X10_cheapestSet (E : wEnv) {x1 : Int32} {x2 : Int32} {x3 : Int32} {M : Mem} {q : (Int32 × Mem)} (h : f_X10_cheapestSet x1 x2 x3 M = some q) : Mt E yX10_cheapestSet cX10_cheapestSet 10 (some .int) 6 [.ref (ad E 0 0), .int x1, .int x2, .int x3] M (some (.int q.1)) q.2 := by
  unfold f_X10_cheapestSet at h
  refine mt_intro (own := RX10) (lv0 := [(0, .ref (ad E 0 0)), (1, .int x1), (2, .int x2), (3, .int x3)]) (by decide) rfl rfl rfl (fun Y C R => ?_)
  refine g_aload_n C dX10_cheapestSet_0 rfl rfl ?_
  refine get_X10_19 C dX10_cheapestSet_1 (by decide) ?_
  refine get_X10_175 C dX10_cheapestSet_4 (by decide) ?_
  refine g_astore C dX10_cheapestSet_7 rfl ?_
  refine g_aload_n C dX10_cheapestSet_9 rfl rfl ?_
  refine get_X10_19 C dX10_cheapestSet_10 (by decide) ?_
  refine get_X10_182 C dX10_cheapestSet_13 (by decide) ?_
  refine get_X10_231 C dX10_cheapestSet_16 (by decide) ?_
  refine g_istore C dX10_cheapestSet_19 rfl ?_
  refine g_iconst (v := (-1 : Int32)) C dX10_cheapestSet_21 (by decide) ?_
  refine g_istore C dX10_cheapestSet_22 rfl ?_
  refine g_iconst (v := (0 : Int32)) C dX10_cheapestSet_24 (by decide) ?_
  refine g_istore C dX10_cheapestSet_25 rfl ?_
  refine g_iconst (v := (0 : Int32)) C dX10_cheapestSet_27 (by decide) ?_
  refine g_istore C dX10_cheapestSet_28 rfl ?_
  exact g_sub (b_X10_cheapestSet_30 C R (by decide) _ h) ⟨rfl, rfl, rfl, rfl, rfl, rfl, rfl, rfl, rfl, trivial⟩
noncomputable def f_X10_bribes (x1 : Int32) (x2 : Int32) (x3 : Int32) (M : Mem) : Option (Int32 × Mem) :=
  (f_X10_isNoVerdict x1.toInt64).bind fun r1 =>
  if r1 = 0 then
    (f_X10_isNoSide x2).bind fun r3 =>
    if r3 = 0 then
      (f_X10_isNoFewRounds x3).bind fun r5 =>
      if r5 = 0 then
        (f_X10_cheapestSet x1 x2 x3 M).bind fun q6 =>
        if q6.1 = (-1 : Int32) then
          (f_X10_none (8 : Int32) q6.2).bind fun q10 =>
          some (q10.1, q10.2)
        else
          let M7 := sR q6.2 36 0 (upd (q6.2.1 36 0) 8 q6.1)
          (f_X1_priceOf 0 q6.1 M7).bind fun r8 =>
          (f_X10_answer r8 M7).bind fun q9 =>
          some (q9.1, q9.2)
      else
        (f_X10_none (5 : Int32) M).bind fun q11 =>
        some (q11.1, q11.2)
    else
      (f_X10_none (5 : Int32) M).bind fun q4 =>
      some (q4.1, q4.2)
  else
    (f_X10_none (5 : Int32) M).bind fun q2 =>
    some (q2.1, q2.2)
set_option maxRecDepth 20000 in
set_option maxHeartbeats 2000000 in
theorem c_X10_bribes (E : wEnv) {x1 : Int32} {x2 : Int32} {x3 : Int32} {M : Mem} {q : (Int32 × Mem)} (h : f_X10_bribes x1 x2 x3 M = some q) : Mt E yX10_bribes cX10_bribes 5 (some .int) 7 [.ref (ad E 0 0), .int x1, .int x2, .int x3] M (some (.int q.1)) q.2 := by
  unfold f_X10_bribes at h
  refine mt_intro (own := RX10) (lv0 := [(0, .ref (ad E 0 0)), (1, .int x1), (2, .int x2), (3, .int x3)]) (by decide) rfl rfl rfl (fun Y C R => ?_)
  refine g_iload_n C dX10_bribes_0 rfl rfl ?_
  refine g_i2l C dX10_bribes_1 ?_
  obtain ⟨r1, hr1, h⟩ := Option.bind_eq_some_iff.mp h
  refine call_X10_259 C dX10_bribes_2 (c_X10_isNoVerdict E hr1) (by decide) rfl ?_
  refine g_if_ne (tgt := 22) C dX10_bribes_5 (by decide) h (fun h => ?_) (fun h => ?_)
  · refine g_aload_n C dX10_bribes_22 rfl rfl ?_
    refine g_iconst (v := (5 : Int32)) C dX10_bribes_23 (by decide) ?_
    obtain ⟨q2, hr2, h⟩ := Option.bind_eq_some_iff.mp h
    refine call_X10_133 C dX10_bribes_24 (by decide) (c_X10_none E hr2) (by decide) rfl ?_
    exact g_iret C R dX10_bribes_27 (fst_of h) (snd_of h)
  · refine g_iload_n C dX10_bribes_8 rfl rfl ?_
    obtain ⟨r3, hr3, h⟩ := Option.bind_eq_some_iff.mp h
    refine call_X10_302 C dX10_bribes_9 (c_X10_isNoSide E hr3) (by decide) rfl ?_
    refine g_if_ne (tgt := 22) C dX10_bribes_12 (by decide) h (fun h => ?_) (fun h => ?_)
    · refine g_aload_n C dX10_bribes_22 rfl rfl ?_
      refine g_iconst (v := (5 : Int32)) C dX10_bribes_23 (by decide) ?_
      obtain ⟨q4, hr4, h⟩ := Option.bind_eq_some_iff.mp h
      refine call_X10_133 C dX10_bribes_24 (by decide) (c_X10_none E hr4) (by decide) rfl ?_
      exact g_iret C R dX10_bribes_27 (fst_of h) (snd_of h)
    · refine g_iload_n C dX10_bribes_15 rfl rfl ?_
      obtain ⟨r5, hr5, h⟩ := Option.bind_eq_some_iff.mp h
      refine call_X10_356 C dX10_bribes_16 (c_X10_isNoFewRounds E hr5) (by decide) rfl ?_
      refine g_if_eq (tgt := 28) C dX10_bribes_19 (by decide) h (fun h => ?_) (fun h => ?_)
      · refine g_aload_n C dX10_bribes_28 rfl rfl ?_
        refine g_iload_n C dX10_bribes_29 rfl rfl ?_
        refine g_iload_n C dX10_bribes_30 rfl rfl ?_
        refine g_iload_n C dX10_bribes_31 rfl rfl ?_
        obtain ⟨q6, hr6, h⟩ := Option.bind_eq_some_iff.mp h
        refine call_X10_359 C dX10_bribes_32 (by decide) (c_X10_cheapestSet E hr6) (by decide) rfl ?_
        refine g_istore C dX10_bribes_35 rfl ?_
        refine g_iload C dX10_bribes_37 rfl ?_
        refine g_iconst (v := (-1 : Int32)) C dX10_bribes_39 (by decide) ?_
        refine g_icmp_ne (tgt := 50) C dX10_bribes_40 (by decide) h (fun h => ?_) (fun h => ?_)
        · refine g_aload_n C dX10_bribes_50 rfl rfl ?_
          refine get_X10_65 C dX10_bribes_51 (by decide) ?_
          refine g_iload C dX10_bribes_54 rfl ?_
          refine put_X10_362 C dX10_bribes_56 (by decide) ?_
          refine g_aload_n C dX10_bribes_59 rfl rfl ?_
          refine g_aload_n C dX10_bribes_60 rfl rfl ?_
          refine get_X10_19 C dX10_bribes_61 (by decide) ?_
          refine get_X10_175 C dX10_bribes_64 (by decide) ?_
          refine g_iload C dX10_bribes_67 rfl ?_
          obtain ⟨r8, hr8, h⟩ := Option.bind_eq_some_iff.mp h
          refine call_X10_365 C dX10_bribes_69 (by decide) (c_X1_priceOf E (by decide) hr8) (by decide) rfl ?_
          obtain ⟨q9, hr9, h⟩ := Option.bind_eq_some_iff.mp h
          refine call_X10_197 C dX10_bribes_72 (by decide) (c_X10_answer E hr9) (by decide) rfl ?_
          exact g_iret C R dX10_bribes_75 (fst_of h) (snd_of h)
        · refine g_aload_n C dX10_bribes_43 rfl rfl ?_
          refine g_bipush (v := (8 : Int32)) C dX10_bribes_44 (by decide) ?_
          obtain ⟨q10, hr10, h⟩ := Option.bind_eq_some_iff.mp h
          refine call_X10_133 C dX10_bribes_46 (by decide) (c_X10_none E hr10) (by decide) rfl ?_
          exact g_iret C R dX10_bribes_49 (fst_of h) (snd_of h)
      · refine g_aload_n C dX10_bribes_22 rfl rfl ?_
        refine g_iconst (v := (5 : Int32)) C dX10_bribes_23 (by decide) ?_
        obtain ⟨q11, hr11, h⟩ := Option.bind_eq_some_iff.mp h
        refine call_X10_133 C dX10_bribes_24 (by decide) (c_X10_none E hr11) (by decide) rfl ?_
        exact g_iret C R dX10_bribes_27 (fst_of h) (snd_of h)
noncomputable def f_X10_bribeSet (M : Mem) : Option (Int32 × Mem) :=
  if (M.1 36 0 8) = (-1 : Int32) then
    (f_X10_none (8 : Int32) M).bind fun q2 =>
    some (q2.1, q2.2)
  else
    (f_X10_answer (M.1 36 0 8) M).bind fun q1 =>
    some (q1.1, q1.2)
set_option maxRecDepth 20000 in
set_option maxHeartbeats 2000000 in
theorem c_X10_bribeSet (E : wEnv) {M : Mem} {q : (Int32 × Mem)} (h : f_X10_bribeSet M = some q) : Mt E yX10_bribeSet cX10_bribeSet 1 (some .int) 1 [.ref (ad E 0 0)] M (some (.int q.1)) q.2 := by
  unfold f_X10_bribeSet at h
  refine mt_intro (own := RX10) (lv0 := [(0, .ref (ad E 0 0))]) (by decide) rfl rfl rfl (fun Y C R => ?_)
  refine g_aload_n C dX10_bribeSet_0 rfl rfl ?_
  refine get_X10_65 C dX10_bribeSet_1 (by decide) ?_
  refine get_X10_362 C dX10_bribeSet_4 (by decide) ?_
  refine g_iconst (v := (-1 : Int32)) C dX10_bribeSet_7 (by decide) ?_
  refine g_icmp_ne (tgt := 20) C dX10_bribeSet_8 (by decide) h (fun h => ?_) (fun h => ?_)
  · refine g_aload_n C dX10_bribeSet_20 rfl rfl ?_
    refine g_aload_n C dX10_bribeSet_21 rfl rfl ?_
    refine get_X10_65 C dX10_bribeSet_22 (by decide) ?_
    refine get_X10_362 C dX10_bribeSet_25 (by decide) ?_
    obtain ⟨q1, hr1, h⟩ := Option.bind_eq_some_iff.mp h
    refine call_X10_197 C dX10_bribeSet_28 (by decide) (c_X10_answer E hr1) (by decide) rfl ?_
    exact g_iret C R dX10_bribeSet_31 (fst_of h) (snd_of h)
  · refine g_aload_n C dX10_bribeSet_11 rfl rfl ?_
    refine g_bipush (v := (8 : Int32)) C dX10_bribeSet_12 (by decide) ?_
    obtain ⟨q2, hr2, h⟩ := Option.bind_eq_some_iff.mp h
    refine call_X10_133 C dX10_bribeSet_14 (by decide) (c_X10_none E hr2) (by decide) rfl ?_
    refine g_goto (tgt := 31) C dX10_bribeSet_17 (by decide) ?_
    exact g_iret C R dX10_bribeSet_31 (fst_of h) (snd_of h)
noncomputable def f_X10_wrongStrikes (x1 : Int32) (M : Mem) : Option Int32 :=
  if x1 < (1 : Int32) then
    some (5 : Int32)
  else
    if (3 : Int32) < x1 then
      some (5 : Int32)
    else
      (f_X3_seatedCount 0 M).bind fun r1 =>
      if r1 < ((2 : Int32) * x1) then
        some (9 : Int32)
      else
        some (0 : Int32)
set_option maxRecDepth 20000 in
set_option maxHeartbeats 2000000 in
theorem c_X10_wrongStrikes (E : wEnv) {x1 : Int32} {M : Mem} {q : Int32} (h : f_X10_wrongStrikes x1 M = some q) : Mt E yX10_wrongStrikes cX10_wrongStrikes 2 (some .int) 2 [.ref (ad E 0 0), .int x1] M (some (.int q)) M := by
  unfold f_X10_wrongStrikes at h
  refine mt_intro (own := RX10) (lv0 := [(0, .ref (ad E 0 0)), (1, .int x1)]) (by decide) rfl rfl rfl (fun Y C R => ?_)
  refine g_iload_n C dX10_wrongStrikes_0 rfl rfl ?_
  refine g_iconst (v := (1 : Int32)) C dX10_wrongStrikes_1 (by decide) ?_
  refine g_icmp_lt (tgt := 10) C dX10_wrongStrikes_2 (by decide) h (fun h => ?_) (fun h => ?_)
  · refine g_iconst (v := (5 : Int32)) C dX10_wrongStrikes_10 (by decide) ?_
    exact g_iret C R dX10_wrongStrikes_11 (Option.some.inj h) rfl
  · refine g_iload_n C dX10_wrongStrikes_5 rfl rfl ?_
    refine g_iconst (v := (3 : Int32)) C dX10_wrongStrikes_6 (by decide) ?_
    refine g_icmp_le (tgt := 12) C dX10_wrongStrikes_7 (by decide) h (fun h => ?_) (fun h => ?_)
    · refine g_aload_n C dX10_wrongStrikes_12 rfl rfl ?_
      refine get_X10_19 C dX10_wrongStrikes_13 (by decide) ?_
      refine get_X10_182 C dX10_wrongStrikes_16 (by decide) ?_
      obtain ⟨r1, hr1, h⟩ := Option.bind_eq_some_iff.mp h
      refine call_X10_317 C dX10_wrongStrikes_19 (by decide) (c_X3_seatedCount E (by decide) hr1) (by decide) rfl ?_
      refine g_iconst (v := (2 : Int32)) C dX10_wrongStrikes_22 (by decide) ?_
      refine g_iload_n C dX10_wrongStrikes_23 rfl rfl ?_
      refine g_imul C dX10_wrongStrikes_24 ?_
      refine g_icmp_ge (tgt := 33) C dX10_wrongStrikes_25 (by decide) h (fun h => ?_) (fun h => ?_)
      · refine g_iconst (v := (0 : Int32)) C dX10_wrongStrikes_33 (by decide) ?_
        exact g_iret C R dX10_wrongStrikes_34 (Option.some.inj h) rfl
      · refine g_bipush (v := (9 : Int32)) C dX10_wrongStrikes_28 (by decide) ?_
        refine g_goto (tgt := 34) C dX10_wrongStrikes_30 (by decide) ?_
        exact g_iret C R dX10_wrongStrikes_34 (Option.some.inj h) rfl
    · refine g_iconst (v := (5 : Int32)) C dX10_wrongStrikes_10 (by decide) ?_
      exact g_iret C R dX10_wrongStrikes_11 (Option.some.inj h) rfl
noncomputable def f_X10_bestPlay_86 (rec : Int32 → Int32 → Int32 → Int32 → Option Int32) (x4 : Int32) (x5 : Int32) (ps0 : Int32) : Option Int32 :=
  if ps0 = 0 then
    some (jmax x4 x5)
  else
    some (jmin x4 x5)
noncomputable def f_X10_bestPlay : Nat → Int32 → Int32 → Int32 → Int32 → Option Int32
  | 0, _, _, _, _ => none
  | n + 1, x0, x1, x2, x3 =>
  if 0 < x3 then
    if 0 < (x1 + x2) then
      if x1 = 0 then
        ((f_X10_bestPlay n) x0 (0 : Int32) (x2 - (1 : Int32)) (x3 - (1 : Int32))).bind fun r5 =>
        some r5
      else
        if x2 = 0 then
          ((f_X10_bestPlay n) x0 (x1 - (1 : Int32)) (0 : Int32) (x3 - (1 : Int32))).bind fun r4 =>
          some r4
        else
          ((f_X10_bestPlay n) x0 (x1 - (1 : Int32)) x2 (x3 - (1 : Int32))).bind fun r2 =>
          ((f_X10_bestPlay n) x0 x1 (x2 - (1 : Int32)) (x3 - (1 : Int32))).bind fun r3 =>
          if (jrem x3 (2 : Int32)) = 0 then
            f_X10_bestPlay_86 (f_X10_bestPlay n) r2 r3 (1 : Int32)
          else
            f_X10_bestPlay_86 (f_X10_bestPlay n) r2 r3 (0 : Int32)
    else
      (f_X10_rule x0 x1 x2).bind fun r6 =>
      some r6
  else
    (f_X10_rule x0 x1 x2).bind fun r1 =>
    some r1
set_option maxRecDepth 20000 in
set_option maxHeartbeats 2000000 in
theorem b_X10_bestPlay_86 {E : wEnv} {Y : YT} {dd dr : Nat} {rec : Int32 → Int32 → Int32 → Int32 → Option Int32} (C : Cx E Y cX10_bestPlay 7 RX10 dd) (hrec : ∀ {x0 : Int32} {x1 : Int32} {x2 : Int32} {x3 : Int32} {M : Mem} {q : Int32}, rec x0 x1 x2 x3 = some q → Mt E yX10_bestPlay cX10_bestPlay 7 (some .int) dr [.int x0, .int x1, .int x2, .int x3] M (some (.int q)) M) (hdr : dr + 1 ≤ dd) (hdD : 1 ≤ dr) {q : Int32} {M : Mem} (R : Rx E Y (some .int) (some (.int q)) M) {x4 : Int32} {x5 : Int32} {ps0 : Int32} (h : f_X10_bestPlay_86 rec x4 x5 ps0 = some q) : G E Y 7 M 86 [(4, .int x4), (5, .int x5)] [.int ps0] := by
  unfold f_X10_bestPlay_86 at h
  refine g_istore C dX10_bestPlay_86 rfl ?_
  refine g_iload C dX10_bestPlay_88 rfl ?_
  refine g_if_eq (tgt := 103) C dX10_bestPlay_90 (by decide) h (fun h => ?_) (fun h => ?_)
  · refine g_iload C dX10_bestPlay_103 rfl ?_
    refine g_iload C dX10_bestPlay_105 rfl ?_
    refine call_X10_466 C dX10_bestPlay_107 (by omega) rfl ?_
    exact g_iret C R dX10_bestPlay_110 (Option.some.inj h) rfl
  · refine g_iload C dX10_bestPlay_93 rfl ?_
    refine g_iload C dX10_bestPlay_95 rfl ?_
    refine call_X10_463 C dX10_bestPlay_97 (by omega) rfl ?_
    refine g_goto (tgt := 110) C dX10_bestPlay_100 (by decide) ?_
    exact g_iret C R dX10_bestPlay_110 (Option.some.inj h) rfl
set_option maxRecDepth 20000 in
set_option maxHeartbeats 2000000 in
theorem c_X10_bestPlay (E : wEnv) (n : Nat) : ∀ {x0 : Int32} {x1 : Int32} {x2 : Int32} {x3 : Int32} {M : Mem} {q : Int32} (_ : f_X10_bestPlay n x0 x1 x2 x3 = some q), Mt E yX10_bestPlay cX10_bestPlay 7 (some .int) (1 + 1 * n) [.int x0, .int x1, .int x2, .int x3] M (some (.int q)) M := by
  induction n with
  | zero =>
    intro x0 x1 x2 x3 M q h
    cases (show none = some q from h)
  | succ n ih =>
    intro x0 x1 x2 x3 M q h
    rw [f_X10_bestPlay] at h
    refine mt_intro (own := RX10) (lv0 := [(0, .int x0), (1, .int x1), (2, .int x2), (3, .int x3)]) (by decide) rfl rfl rfl (fun Y C R => ?_)
    refine g_iload_n C dX10_bestPlay_0 rfl rfl ?_
    refine g_if_le (tgt := 10) C dX10_bestPlay_1 (by decide) h (fun h => ?_) (fun h => ?_)
    · refine g_iload_n C dX10_bestPlay_10 rfl rfl ?_
      refine g_iload_n C dX10_bestPlay_11 rfl rfl ?_
      refine g_iload_n C dX10_bestPlay_12 rfl rfl ?_
      obtain ⟨r1, hr1, h⟩ := Option.bind_eq_some_iff.mp h
      refine call_X10_320 C dX10_bestPlay_13 (c_X10_rule E hr1) (by omega) rfl ?_
      exact g_iret C R dX10_bestPlay_16 (Option.some.inj h) rfl
    · refine g_iload_n C dX10_bestPlay_4 rfl rfl ?_
      refine g_iload_n C dX10_bestPlay_5 rfl rfl ?_
      refine g_iadd C dX10_bestPlay_6 ?_
      refine g_if_gt (tgt := 17) C dX10_bestPlay_7 (by decide) h (fun h => ?_) (fun h => ?_)
      · refine g_iload_n C dX10_bestPlay_17 rfl rfl ?_
        refine g_if_ne (tgt := 33) C dX10_bestPlay_18 (by decide) h (fun h => ?_) (fun h => ?_)
        · refine g_iload_n C dX10_bestPlay_33 rfl rfl ?_
          refine g_if_ne (tgt := 49) C dX10_bestPlay_34 (by decide) h (fun h => ?_) (fun h => ?_)
          · refine g_iload_n C dX10_bestPlay_49 rfl rfl ?_
            refine g_iload_n C dX10_bestPlay_50 rfl rfl ?_
            refine g_iconst (v := (1 : Int32)) C dX10_bestPlay_51 (by decide) ?_
            refine g_isub C dX10_bestPlay_52 ?_
            refine g_iload_n C dX10_bestPlay_53 rfl rfl ?_
            refine g_iload_n C dX10_bestPlay_54 rfl rfl ?_
            refine g_iconst (v := (1 : Int32)) C dX10_bestPlay_55 (by decide) ?_
            refine g_isub C dX10_bestPlay_56 ?_
            obtain ⟨r2, hr2, h⟩ := Option.bind_eq_some_iff.mp h
            refine call_X10_371 C dX10_bestPlay_57 (ih hr2) (by omega) rfl ?_
            refine g_istore C dX10_bestPlay_60 rfl ?_
            refine g_iload_n C dX10_bestPlay_62 rfl rfl ?_
            refine g_iload_n C dX10_bestPlay_63 rfl rfl ?_
            refine g_iload_n C dX10_bestPlay_64 rfl rfl ?_
            refine g_iconst (v := (1 : Int32)) C dX10_bestPlay_65 (by decide) ?_
            refine g_isub C dX10_bestPlay_66 ?_
            refine g_iload_n C dX10_bestPlay_67 rfl rfl ?_
            refine g_iconst (v := (1 : Int32)) C dX10_bestPlay_68 (by decide) ?_
            refine g_isub C dX10_bestPlay_69 ?_
            obtain ⟨r3, hr3, h⟩ := Option.bind_eq_some_iff.mp h
            refine call_X10_371 C dX10_bestPlay_70 (ih hr3) (by omega) rfl ?_
            refine g_istore C dX10_bestPlay_73 rfl ?_
            refine g_iload_n C dX10_bestPlay_75 rfl rfl ?_
            refine g_iconst (v := (2 : Int32)) C dX10_bestPlay_76 (by decide) ?_
            refine g_irem C dX10_bestPlay_77 (by decide) ?_
            refine g_if_ne (tgt := 85) C dX10_bestPlay_78 (by decide) h (fun h => ?_) (fun h => ?_)
            · refine g_iconst (v := (0 : Int32)) C dX10_bestPlay_85 (by decide) ?_
              exact g_sub (b_X10_bestPlay_86 (dr := 1 + 1 * n) C ih (by omega) (by omega) R h) ⟨rfl, rfl, trivial⟩
            · refine g_iconst (v := (1 : Int32)) C dX10_bestPlay_81 (by decide) ?_
              refine g_goto (tgt := 86) C dX10_bestPlay_82 (by decide) ?_
              exact g_sub (b_X10_bestPlay_86 (dr := 1 + 1 * n) C ih (by omega) (by omega) R h) ⟨rfl, rfl, trivial⟩
          · refine g_iload_n C dX10_bestPlay_37 rfl rfl ?_
            refine g_iload_n C dX10_bestPlay_38 rfl rfl ?_
            refine g_iconst (v := (1 : Int32)) C dX10_bestPlay_39 (by decide) ?_
            refine g_isub C dX10_bestPlay_40 ?_
            refine g_iconst (v := (0 : Int32)) C dX10_bestPlay_41 (by decide) ?_
            refine g_iload_n C dX10_bestPlay_42 rfl rfl ?_
            refine g_iconst (v := (1 : Int32)) C dX10_bestPlay_43 (by decide) ?_
            refine g_isub C dX10_bestPlay_44 ?_
            obtain ⟨r4, hr4, h⟩ := Option.bind_eq_some_iff.mp h
            refine call_X10_371 C dX10_bestPlay_45 (ih hr4) (by omega) rfl ?_
            exact g_iret C R dX10_bestPlay_48 (Option.some.inj h) rfl
        · refine g_iload_n C dX10_bestPlay_21 rfl rfl ?_
          refine g_iconst (v := (0 : Int32)) C dX10_bestPlay_22 (by decide) ?_
          refine g_iload_n C dX10_bestPlay_23 rfl rfl ?_
          refine g_iconst (v := (1 : Int32)) C dX10_bestPlay_24 (by decide) ?_
          refine g_isub C dX10_bestPlay_25 ?_
          refine g_iload_n C dX10_bestPlay_26 rfl rfl ?_
          refine g_iconst (v := (1 : Int32)) C dX10_bestPlay_27 (by decide) ?_
          refine g_isub C dX10_bestPlay_28 ?_
          obtain ⟨r5, hr5, h⟩ := Option.bind_eq_some_iff.mp h
          refine call_X10_371 C dX10_bestPlay_29 (ih hr5) (by omega) rfl ?_
          exact g_iret C R dX10_bestPlay_32 (Option.some.inj h) rfl
      · refine g_iload_n C dX10_bestPlay_10 rfl rfl ?_
        refine g_iload_n C dX10_bestPlay_11 rfl rfl ?_
        refine g_iload_n C dX10_bestPlay_12 rfl rfl ?_
        obtain ⟨r6, hr6, h⟩ := Option.bind_eq_some_iff.mp h
        refine call_X10_320 C dX10_bestPlay_13 (c_X10_rule E hr6) (by omega) rfl ?_
        exact g_iret C R dX10_bestPlay_16 (Option.some.inj h) rfl
noncomputable def f_X10_strikes (x1 : Int32) (M : Mem) : Option (Int32 × Mem) :=
  (f_X10_wrongStrikes x1 M).bind fun r1 =>
  if r1 = 0 then
    (f_X3_guiltyVotes 0 M).bind fun r2 =>
    (f_X3_seatedCount 0 M).bind fun r3 =>
    (f_X10_bestPlay 40 (M.1 8 0 12) r2 (r3 - r2) ((2 : Int32) * x1)).bind fun r4 =>
    (f_X10_answer r4 M).bind fun q5 =>
    some (q5.1, q5.2)
  else
    (f_X10_none r1 M).bind fun q6 =>
    some (q6.1, q6.2)
set_option maxRecDepth 20000 in
set_option maxHeartbeats 2000000 in
theorem c_X10_strikes (E : wEnv) {x1 : Int32} {M : Mem} {q : (Int32 × Mem)} (h : f_X10_strikes x1 M = some q) : Mt E yX10_strikes cX10_strikes 4 (some .int) 42 [.ref (ad E 0 0), .int x1] M (some (.int q.1)) q.2 := by
  unfold f_X10_strikes at h
  refine mt_intro (own := RX10) (lv0 := [(0, .ref (ad E 0 0)), (1, .int x1)]) (by decide) rfl rfl rfl (fun Y C R => ?_)
  refine g_aload_n C dX10_strikes_0 rfl rfl ?_
  refine g_iload_n C dX10_strikes_1 rfl rfl ?_
  obtain ⟨r1, hr1, h⟩ := Option.bind_eq_some_iff.mp h
  refine call_X10_368 C dX10_strikes_2 (by decide) (c_X10_wrongStrikes E hr1) (by decide) rfl ?_
  refine g_istore_n C dX10_strikes_5 rfl rfl ?_
  refine g_iload_n C dX10_strikes_6 rfl rfl ?_
  refine g_if_eq (tgt := 16) C dX10_strikes_7 (by decide) h (fun h => ?_) (fun h => ?_)
  · refine g_aload_n C dX10_strikes_16 rfl rfl ?_
    refine get_X10_19 C dX10_strikes_17 (by decide) ?_
    refine get_X10_182 C dX10_strikes_20 (by decide) ?_
    obtain ⟨r2, hr2, h⟩ := Option.bind_eq_some_iff.mp h
    refine call_X10_313 C dX10_strikes_23 (by decide) (c_X3_guiltyVotes E (by decide) hr2) (by decide) rfl ?_
    refine g_istore_n C dX10_strikes_26 rfl rfl ?_
    refine g_aload_n C dX10_strikes_27 rfl rfl ?_
    refine g_aload_n C dX10_strikes_28 rfl rfl ?_
    refine get_X10_19 C dX10_strikes_29 (by decide) ?_
    refine get_X10_175 C dX10_strikes_32 (by decide) ?_
    refine get_X10_213 C dX10_strikes_35 (by decide) ?_
    refine g_iload_n C dX10_strikes_38 rfl rfl ?_
    refine g_aload_n C dX10_strikes_39 rfl rfl ?_
    refine get_X10_19 C dX10_strikes_40 (by decide) ?_
    refine get_X10_182 C dX10_strikes_43 (by decide) ?_
    obtain ⟨r3, hr3, h⟩ := Option.bind_eq_some_iff.mp h
    refine call_X10_317 C dX10_strikes_46 (by decide) (c_X3_seatedCount E (by decide) hr3) (by decide) rfl ?_
    refine g_iload_n C dX10_strikes_49 rfl rfl ?_
    refine g_isub C dX10_strikes_50 ?_
    refine g_iconst (v := (2 : Int32)) C dX10_strikes_51 (by decide) ?_
    refine g_iload_n C dX10_strikes_52 rfl rfl ?_
    refine g_imul C dX10_strikes_53 ?_
    obtain ⟨r4, hr4, h⟩ := Option.bind_eq_some_iff.mp h
    refine call_X10_371 C dX10_strikes_54 (c_X10_bestPlay E 40 hr4) (by decide) rfl ?_
    obtain ⟨q5, hr5, h⟩ := Option.bind_eq_some_iff.mp h
    refine call_X10_197 C dX10_strikes_57 (by decide) (c_X10_answer E hr5) (by decide) rfl ?_
    exact g_iret C R dX10_strikes_60 (fst_of h) (snd_of h)
  · refine g_aload_n C dX10_strikes_10 rfl rfl ?_
    refine g_iload_n C dX10_strikes_11 rfl rfl ?_
    obtain ⟨q6, hr6, h⟩ := Option.bind_eq_some_iff.mp h
    refine call_X10_133 C dX10_strikes_12 (by decide) (c_X10_none E hr6) (by decide) rfl ?_
    exact g_iret C R dX10_strikes_15 (fst_of h) (snd_of h)
noncomputable def f_X10_firstOfBest_89 (k48 : Int32 → Option Int32) (x1 : Int32) (i2 : Nat) (x3 : Int32) (x4 : Int32) (x5 : Int32) (x6 : Int32) (x7 : Int32) (ps0 : Int32) (M : Mem) : Option Int32 :=
  (f_X10_bestPlay 40 x3 (x4 - ps0) ((x5 - (1 : Int32)) + ps0) (x1 - (1 : Int32))).bind fun r6 =>
  if r6 = x6 then
    some x7
  else
    k48 (x7 + (1 : Int32))
noncomputable def f_X10_firstOfBest_48 (x1 : Int32) (i2 : Nat) (x3 : Int32) (x4 : Int32) (x5 : Int32) (x6 : Int32) (M : Mem) : Nat → Int32 → Option Int32
  | 0, _ => none
  | n + 1, x7 =>
  if x7 < (M.1 9 0 0) then
    (f_X3_isSeated i2 x7 M).bind fun r4 =>
    if r4 = 0 then
      f_X10_firstOfBest_48 x1 i2 x3 x4 x5 x6 M n (x7 + (1 : Int32))
    else
      if inb x7 10 = true then
       if 0 < (M.1 21 i2 x7.toNatClampNeg) then
         f_X10_firstOfBest_89 (fun x7_8 =>
             f_X10_firstOfBest_48 x1 i2 x3 x4 x5 x6 M n x7_8) x1 i2 x3 x4 x5 x6 x7 (1 : Int32) M
       else
         f_X10_firstOfBest_89 (fun x7_7 =>
             f_X10_firstOfBest_48 x1 i2 x3 x4 x5 x6 M n x7_7) x1 i2 x3 x4 x5 x6 x7 (0 : Int32) M
      else none
  else
    some (-1 : Int32)
noncomputable def f_X10_firstOfBest (x1 : Int32) (M : Mem) : Option Int32 :=
  (f_X3_guiltyVotes 0 M).bind fun r1 =>
  (f_X3_seatedCount 0 M).bind fun r2 =>
  (f_X10_bestPlay 40 (M.1 8 0 12) r1 (r2 - r1) x1).bind fun r3 =>
  f_X10_firstOfBest_48 x1 0 (M.1 8 0 12) r1 (r2 - r1) r3 M FU (0 : Int32)
set_option maxRecDepth 20000 in
set_option maxHeartbeats 2000000 in
theorem b_X10_firstOfBest_89 {E : wEnv} {Y : YT} (C : Cx E Y cX10_firstOfBest 9 RX10 42) {q : Int32} {M : Mem} (R : Rx E Y (some .int) (some (.int q)) M) {x1 : Int32} {i2 : Nat} {x3 : Int32} {x4 : Int32} {x5 : Int32} {x6 : Int32} {x7 : Int32} {ps0 : Int32} (hi2 : i2 < cnt 20) {k48 : Int32 → Option Int32} (hk48 : ∀ {x7 : Int32} , k48 x7 = some q → G E Y 9 M 48 [(0, .ref (ad E 0 0)), (1, .int x1), (2, .ref (ad E 20 i2)), (3, .int x3), (4, .int x4), (5, .int x5), (6, .int x6), (7, .int x7)] []) (h : f_X10_firstOfBest_89 k48 x1 i2 x3 x4 x5 x6 x7 ps0 M = some q) : G E Y 9 M 89 [(0, .ref (ad E 0 0)), (1, .int x1), (2, .ref (ad E 20 i2)), (3, .int x3), (4, .int x4), (5, .int x5), (6, .int x6), (7, .int x7)] [.int ps0] := by
  unfold f_X10_firstOfBest_89 at h
  refine g_istore C dX10_firstOfBest_89 rfl ?_
  refine g_iload_n C dX10_firstOfBest_91 rfl rfl ?_
  refine g_iload C dX10_firstOfBest_92 rfl ?_
  refine g_iload C dX10_firstOfBest_94 rfl ?_
  refine g_isub C dX10_firstOfBest_96 ?_
  refine g_iload C dX10_firstOfBest_97 rfl ?_
  refine g_iconst (v := (1 : Int32)) C dX10_firstOfBest_99 (by decide) ?_
  refine g_isub C dX10_firstOfBest_100 ?_
  refine g_iload C dX10_firstOfBest_101 rfl ?_
  refine g_iadd C dX10_firstOfBest_103 ?_
  refine g_iload_n C dX10_firstOfBest_104 rfl rfl ?_
  refine g_iconst (v := (1 : Int32)) C dX10_firstOfBest_105 (by decide) ?_
  refine g_isub C dX10_firstOfBest_106 ?_
  obtain ⟨r6, hr6, h⟩ := Option.bind_eq_some_iff.mp h
  refine call_X10_371 C dX10_firstOfBest_107 (c_X10_bestPlay E 40 hr6) (by decide) rfl ?_
  refine g_iload C dX10_firstOfBest_110 rfl ?_
  refine g_icmp_ne (tgt := 118) C dX10_firstOfBest_112 (by decide) h (fun h => ?_) (fun h => ?_)
  · refine g_iinc (w := (1 : Int32)) C dX10_firstOfBest_118 rfl (by decide) rfl ?_
    refine g_goto (tgt := 48) C dX10_firstOfBest_121 (by decide) ?_
    exact g_sub (hk48 h) ⟨rfl, rfl, rfl, rfl, rfl, rfl, rfl, rfl, trivial⟩
  · refine g_iload C dX10_firstOfBest_115 rfl ?_
    exact g_iret C R dX10_firstOfBest_117 (Option.some.inj h) rfl
set_option maxRecDepth 20000 in
set_option maxHeartbeats 2000000 in
theorem b_X10_firstOfBest_48 {E : wEnv} {Y : YT} (C : Cx E Y cX10_firstOfBest 9 RX10 42) {q : Int32} {M : Mem} (R : Rx E Y (some .int) (some (.int q)) M) {x1 : Int32} {i2 : Nat} {x3 : Int32} {x4 : Int32} {x5 : Int32} {x6 : Int32} (hi2 : i2 < cnt 20) (n : Nat) : ∀ {x7 : Int32} (_ : f_X10_firstOfBest_48 x1 i2 x3 x4 x5 x6 M n x7 = some q), G E Y 9 M 48 [(0, .ref (ad E 0 0)), (1, .int x1), (2, .ref (ad E 20 i2)), (3, .int x3), (4, .int x4), (5, .int x5), (6, .int x6), (7, .int x7)] [] := by
  induction n with
  | zero =>
    intro x7 h
    cases (show none = some q from h)
  | succ n ih =>
    intro x7 h
    rw [f_X10_firstOfBest_48] at h
    refine g_iload C dX10_firstOfBest_48 rfl ?_
    refine g_aload_n C dX10_firstOfBest_50 rfl rfl ?_
    refine get_X10_19 C dX10_firstOfBest_51 (by decide) ?_
    refine get_X10_175 C dX10_firstOfBest_54 (by decide) ?_
    refine get_X10_194 C dX10_firstOfBest_57 (by decide) ?_
    refine g_iconst (v := (0 : Int32)) C dX10_firstOfBest_60 (by decide) ?_
    refine ld_9 (j := 0) C dX10_firstOfBest_61 (by decide) (by decide) rfl ?_
    refine g_icmp_ge (tgt := 124) C dX10_firstOfBest_62 (by decide) h (fun h => ?_) (fun h => ?_)
    · refine g_iconst (v := (-1 : Int32)) C dX10_firstOfBest_124 (by decide) ?_
      exact g_iret C R dX10_firstOfBest_125 (Option.some.inj h) rfl
    · refine g_aload_n C dX10_firstOfBest_65 rfl rfl ?_
      refine g_iload C dX10_firstOfBest_66 rfl ?_
      obtain ⟨r4, hr4, h⟩ := Option.bind_eq_some_iff.mp h
      refine call_X10_293 C dX10_firstOfBest_68 hi2 (c_X3_isSeated E hi2 hr4) (by decide) rfl ?_
      refine g_if_eq (tgt := 118) C dX10_firstOfBest_71 (by decide) h (fun h => ?_) (fun h => ?_)
      · refine g_iinc (w := (1 : Int32)) C dX10_firstOfBest_118 rfl (by decide) rfl ?_
        refine g_goto (tgt := 48) C dX10_firstOfBest_121 (by decide) ?_
        exact g_sub (ih h) ⟨rfl, rfl, rfl, rfl, rfl, rfl, rfl, rfl, trivial⟩
      · refine g_aload_n C dX10_firstOfBest_74 rfl rfl ?_
        refine get_X10_241 C dX10_firstOfBest_75 hi2 ?_
        refine g_iload C dX10_firstOfBest_78 rfl ?_
        obtain ⟨hb5, h⟩ := of_ite h
        refine ld_21 (j := _) C dX10_firstOfBest_80 (Nat.lt_of_lt_of_le hi2 (by decide : cnt 20 ≤ cnt 21)) hb5 rfl ?_
        refine g_if_le (tgt := 88) C dX10_firstOfBest_81 (by decide) h (fun h => ?_) (fun h => ?_)
        · refine g_iconst (v := (0 : Int32)) C dX10_firstOfBest_88 (by decide) ?_
          refine g_sub (b_X10_firstOfBest_89 C R hi2 ?_  h) ⟨rfl, rfl, rfl, rfl, rfl, rfl, rfl, rfl, trivial⟩
          · clear h
            intro x7_7 h
            exact g_sub (ih h) ⟨rfl, rfl, rfl, rfl, rfl, rfl, rfl, rfl, trivial⟩
        · refine g_iconst (v := (1 : Int32)) C dX10_firstOfBest_84 (by decide) ?_
          refine g_goto (tgt := 89) C dX10_firstOfBest_85 (by decide) ?_
          refine g_sub (b_X10_firstOfBest_89 C R hi2 ?_  h) ⟨rfl, rfl, rfl, rfl, rfl, rfl, rfl, rfl, trivial⟩
          · clear h
            intro x7_8 h
            exact g_sub (ih h) ⟨rfl, rfl, rfl, rfl, rfl, rfl, rfl, rfl, trivial⟩
set_option maxRecDepth 20000 in
set_option maxHeartbeats 2000000 in
theorem c_X10_firstOfBest (E : wEnv) {x1 : Int32} {M : Mem} {q : Int32} (h : f_X10_firstOfBest x1 M = some q) : Mt E yX10_firstOfBest cX10_firstOfBest 9 (some .int) 42 [.ref (ad E 0 0), .int x1] M (some (.int q)) M := by
  unfold f_X10_firstOfBest at h
  refine mt_intro (own := RX10) (lv0 := [(0, .ref (ad E 0 0)), (1, .int x1)]) (by decide) rfl rfl rfl (fun Y C R => ?_)
  refine g_aload_n C dX10_firstOfBest_0 rfl rfl ?_
  refine get_X10_19 C dX10_firstOfBest_1 (by decide) ?_
  refine get_X10_182 C dX10_firstOfBest_4 (by decide) ?_
  refine g_astore_n C dX10_firstOfBest_7 rfl rfl ?_
  refine g_aload_n C dX10_firstOfBest_8 rfl rfl ?_
  refine get_X10_19 C dX10_firstOfBest_9 (by decide) ?_
  refine get_X10_175 C dX10_firstOfBest_12 (by decide) ?_
  refine get_X10_213 C dX10_firstOfBest_15 (by decide) ?_
  refine g_istore_n C dX10_firstOfBest_18 rfl rfl ?_
  refine g_aload_n C dX10_firstOfBest_19 rfl rfl ?_
  obtain ⟨r1, hr1, h⟩ := Option.bind_eq_some_iff.mp h
  refine call_X10_313 C dX10_firstOfBest_20 (by decide) (c_X3_guiltyVotes E (by decide) hr1) (by decide) rfl ?_
  refine g_istore C dX10_firstOfBest_23 rfl ?_
  refine g_aload_n C dX10_firstOfBest_25 rfl rfl ?_
  obtain ⟨r2, hr2, h⟩ := Option.bind_eq_some_iff.mp h
  refine call_X10_317 C dX10_firstOfBest_26 (by decide) (c_X3_seatedCount E (by decide) hr2) (by decide) rfl ?_
  refine g_iload C dX10_firstOfBest_29 rfl ?_
  refine g_isub C dX10_firstOfBest_31 ?_
  refine g_istore C dX10_firstOfBest_32 rfl ?_
  refine g_iload_n C dX10_firstOfBest_34 rfl rfl ?_
  refine g_iload C dX10_firstOfBest_35 rfl ?_
  refine g_iload C dX10_firstOfBest_37 rfl ?_
  refine g_iload_n C dX10_firstOfBest_39 rfl rfl ?_
  obtain ⟨r3, hr3, h⟩ := Option.bind_eq_some_iff.mp h
  refine call_X10_371 C dX10_firstOfBest_40 (c_X10_bestPlay E 40 hr3) (by decide) rfl ?_
  refine g_istore C dX10_firstOfBest_43 rfl ?_
  refine g_iconst (v := (0 : Int32)) C dX10_firstOfBest_45 (by decide) ?_
  refine g_istore C dX10_firstOfBest_46 rfl ?_
  exact g_sub (b_X10_firstOfBest_48 C R (by decide) _ h) ⟨rfl, rfl, rfl, rfl, rfl, rfl, rfl, rfl, trivial⟩
noncomputable def f_X10_firstStrike (x1 : Int32) (M : Mem) : Option (Int32 × Mem) :=
  (f_X10_wrongStrikes x1 M).bind fun r1 =>
  if r1 = 0 then
    (f_X10_firstOfBest ((2 : Int32) * x1) M).bind fun r2 =>
    (f_X10_answer r2 M).bind fun q3 =>
    some (q3.1, q3.2)
  else
    (f_X10_none r1 M).bind fun q4 =>
    some (q4.1, q4.2)
set_option maxRecDepth 20000 in
set_option maxHeartbeats 2000000 in
theorem c_X10_firstStrike (E : wEnv) {x1 : Int32} {M : Mem} {q : (Int32 × Mem)} (h : f_X10_firstStrike x1 M = some q) : Mt E yX10_firstStrike cX10_firstStrike 3 (some .int) 43 [.ref (ad E 0 0), .int x1] M (some (.int q.1)) q.2 := by
  unfold f_X10_firstStrike at h
  refine mt_intro (own := RX10) (lv0 := [(0, .ref (ad E 0 0)), (1, .int x1)]) (by decide) rfl rfl rfl (fun Y C R => ?_)
  refine g_aload_n C dX10_firstStrike_0 rfl rfl ?_
  refine g_iload_n C dX10_firstStrike_1 rfl rfl ?_
  obtain ⟨r1, hr1, h⟩ := Option.bind_eq_some_iff.mp h
  refine call_X10_368 C dX10_firstStrike_2 (by decide) (c_X10_wrongStrikes E hr1) (by decide) rfl ?_
  refine g_istore_n C dX10_firstStrike_5 rfl rfl ?_
  refine g_iload_n C dX10_firstStrike_6 rfl rfl ?_
  refine g_if_eq (tgt := 16) C dX10_firstStrike_7 (by decide) h (fun h => ?_) (fun h => ?_)
  · refine g_aload_n C dX10_firstStrike_16 rfl rfl ?_
    refine g_aload_n C dX10_firstStrike_17 rfl rfl ?_
    refine g_iconst (v := (2 : Int32)) C dX10_firstStrike_18 (by decide) ?_
    refine g_iload_n C dX10_firstStrike_19 rfl rfl ?_
    refine g_imul C dX10_firstStrike_20 ?_
    obtain ⟨r2, hr2, h⟩ := Option.bind_eq_some_iff.mp h
    refine call_X10_375 C dX10_firstStrike_21 (by decide) (c_X10_firstOfBest E hr2) (by decide) rfl ?_
    obtain ⟨q3, hr3, h⟩ := Option.bind_eq_some_iff.mp h
    refine call_X10_197 C dX10_firstStrike_24 (by decide) (c_X10_answer E hr3) (by decide) rfl ?_
    exact g_iret C R dX10_firstStrike_27 (fst_of h) (snd_of h)
  · refine g_aload_n C dX10_firstStrike_10 rfl rfl ?_
    refine g_iload_n C dX10_firstStrike_11 rfl rfl ?_
    obtain ⟨q4, hr4, h⟩ := Option.bind_eq_some_iff.mp h
    refine call_X10_133 C dX10_firstStrike_12 (by decide) (c_X10_none E hr4) (by decide) rfl ?_
    exact g_iret C R dX10_firstStrike_15 (fst_of h) (snd_of h)
noncomputable def f_X10_commonDivisor_9 : Nat → Int64 → Int64 → Int32 → Option Int64
  | 0, _, _, _ => none
  | n + 1, l4, l6, x8 =>
  if x8 < (100 : Int32) then
    if 0 < (lg_cmp l6 (0 : Int64)) then
      if l6 = 0 then none else
      f_X10_commonDivisor_9 n l6 (jreml l4 l6) (x8 + (1 : Int32))
    else
      some l4
  else
    some l4
noncomputable def f_X10_commonDivisor (l0 : Int64) (l2 : Int64) : Option Int64 :=
  f_X10_commonDivisor_9 FU l0 l2 (0 : Int32)
set_option maxRecDepth 20000 in
set_option maxHeartbeats 2000000 in
theorem b_X10_commonDivisor_9 {E : wEnv} {Y : YT} (C : Cx E Y cX10_commonDivisor 11 RX10 0) {q : Int64} {M : Mem} (R : Rx E Y (some .long) (some (.long q)) M) (n : Nat) : ∀ {l4 : Int64} {l6 : Int64} {x8 : Int32} (_ : f_X10_commonDivisor_9 n l4 l6 x8 = some q), G E Y 11 M 9 [(4, .long l4), (6, .long l6), (8, .int x8)] [] := by
  induction n with
  | zero =>
    intro l4 l6 x8 h
    cases (show none = some q from h)
  | succ n ih =>
    intro l4 l6 x8 h
    rw [f_X10_commonDivisor_9] at h
    refine g_iload C dX10_commonDivisor_9 rfl ?_
    refine g_bipush (v := (100 : Int32)) C dX10_commonDivisor_11 (by decide) ?_
    refine g_icmp_ge (tgt := 44) C dX10_commonDivisor_13 (by decide) h (fun h => ?_) (fun h => ?_)
    · refine g_lload C dX10_commonDivisor_44 rfl ?_
      exact g_lret C R dX10_commonDivisor_46 (Option.some.inj h) rfl
    · refine g_lload C dX10_commonDivisor_16 rfl ?_
      refine g_lconst (v := (0 : Int64)) C dX10_commonDivisor_18 (by decide) ?_
      refine g_lcmp C dX10_commonDivisor_19 ?_
      refine g_if_le (tgt := 44) C dX10_commonDivisor_20 (by decide) h (fun h => ?_) (fun h => ?_)
      · refine g_lload C dX10_commonDivisor_44 rfl ?_
        exact g_lret C R dX10_commonDivisor_46 (Option.some.inj h) rfl
      · refine g_lload C dX10_commonDivisor_23 rfl ?_
        refine g_lload C dX10_commonDivisor_25 rfl ?_
        obtain ⟨hz1, h⟩ := of_iten h
        refine g_lrem C dX10_commonDivisor_27 hz1 ?_
        refine g_lstore C dX10_commonDivisor_28 rfl ?_
        refine g_lload C dX10_commonDivisor_30 rfl ?_
        refine g_lstore C dX10_commonDivisor_32 rfl ?_
        refine g_lload C dX10_commonDivisor_34 rfl ?_
        refine g_lstore C dX10_commonDivisor_36 rfl ?_
        refine g_iinc (w := (1 : Int32)) C dX10_commonDivisor_38 rfl (by decide) rfl ?_
        refine g_goto (tgt := 9) C dX10_commonDivisor_41 (by decide) ?_
        exact g_sub (ih h) ⟨rfl, rfl, rfl, trivial⟩
set_option maxRecDepth 20000 in
set_option maxHeartbeats 2000000 in
theorem c_X10_commonDivisor (E : wEnv) {l0 : Int64} {l2 : Int64} {M : Mem} {q : Int64} (h : f_X10_commonDivisor l0 l2 = some q) : Mt E yX10_commonDivisor cX10_commonDivisor 11 (some .long) 0 [.long l0, .long l2] M (some (.long q)) M := by
  unfold f_X10_commonDivisor at h
  refine mt_intro (own := RX10) (lv0 := [(0, .long l0), (2, .long l2)]) (by decide) rfl rfl rfl (fun Y C R => ?_)
  refine g_lload_n C dX10_commonDivisor_0 rfl rfl ?_
  refine g_lstore C dX10_commonDivisor_1 rfl ?_
  refine g_lload_n C dX10_commonDivisor_3 rfl rfl ?_
  refine g_lstore C dX10_commonDivisor_4 rfl ?_
  refine g_iconst (v := (0 : Int32)) C dX10_commonDivisor_6 (by decide) ?_
  refine g_istore C dX10_commonDivisor_7 rfl ?_
  exact g_sub (b_X10_commonDivisor_9 C R _ h) ⟨rfl, rfl, rfl, trivial⟩
noncomputable def f_X10_tellFraction (l1 : Int64) (l3 : Int64) (M : Mem) : Option Mem :=
  (f_X10_commonDivisor (jabsl l1) l3).bind fun r1 =>
  if 0 < (lg_cmp r1 (0 : Int64)) then
    if r1 = 0 then none else
    let M3 := sL M 0 0 (vp_updL (M.2 0 0) 17 (l1 / r1))
    if r1 = 0 then none else
    let M5 := sL M3 0 0 (vp_updL (M3.2 0 0) 18 (l3 / r1))
    some M5
  else
    some M
set_option maxRecDepth 20000 in
set_option maxHeartbeats 2000000 in
theorem c_X10_tellFraction (E : wEnv) {l1 : Int64} {l3 : Int64} {M : Mem} {q : Mem} (h : f_X10_tellFraction l1 l3 M = some q) : Mt E yX10_tellFraction cX10_tellFraction 7 none 1 [.ref (ad E 0 0), .long l1, .long l3] M none q := by
  unfold f_X10_tellFraction at h
  refine mt_intro (own := RX10) (lv0 := [(0, .ref (ad E 0 0)), (1, .long l1), (3, .long l3)]) (by decide) rfl rfl rfl (fun Y C R => ?_)
  refine g_lload_n C dX10_tellFraction_0 rfl rfl ?_
  refine call_X10_437 C dX10_tellFraction_1 (by decide) rfl ?_
  refine g_lload_n C dX10_tellFraction_4 rfl rfl ?_
  obtain ⟨r1, hr1, h⟩ := Option.bind_eq_some_iff.mp h
  refine call_X10_443 C dX10_tellFraction_5 (c_X10_commonDivisor E hr1) (by decide) rfl ?_
  refine g_lstore C dX10_tellFraction_8 rfl ?_
  refine g_lload C dX10_tellFraction_10 rfl ?_
  refine g_lconst (v := (0 : Int64)) C dX10_tellFraction_12 (by decide) ?_
  refine g_lcmp C dX10_tellFraction_13 ?_
  refine g_if_le (tgt := 33) C dX10_tellFraction_14 (by decide) h (fun h => ?_) (fun h => ?_)
  · exact g_vret C R dX10_tellFraction_33 (Option.some.inj h)
  · refine g_aload_n C dX10_tellFraction_17 rfl rfl ?_
    refine g_lload_n C dX10_tellFraction_18 rfl rfl ?_
    refine g_lload C dX10_tellFraction_19 rfl ?_
    obtain ⟨hz2, h⟩ := of_iten h
    refine g_ldiv C dX10_tellFraction_21 hz2 ?_
    refine put_X10_103 C dX10_tellFraction_22 (by decide) ?_
    refine g_aload_n C dX10_tellFraction_25 rfl rfl ?_
    refine g_lload_n C dX10_tellFraction_26 rfl rfl ?_
    refine g_lload C dX10_tellFraction_27 rfl ?_
    obtain ⟨hz4, h⟩ := of_iten h
    refine g_ldiv C dX10_tellFraction_29 hz4 ?_
    refine put_X10_107 C dX10_tellFraction_30 (by decide) ?_
    exact g_vret C R dX10_tellFraction_33 (Option.some.inj h)
noncomputable def f_X10_drawn_55 (x1 : Int32) (x2 : Int32) (x3 : Int32) (x4 : Int32) : Nat → Int32 → Int32 → Int32 → Mem → Option (Int32 × Mem)
  | 0, _, _, _, _ => none
  | n + 1, x5, x6, x7, M =>
  if x7 < ((1 : Int32) <<< (x4 &&& 31)) then
    (f_J6_bitCount_0f7a4 x7).bind fun r12 =>
    if r12 = x1 then
      (f_X3_openDay 4 0 M).bind fun M13 =>
      let M14 := sR M13 20 4 (upd (M13.1 20 4) 2 x7)
      (f_X3_talkOn 4 0 x2 M14).bind fun M15 =>
      (f_X3_ruling 4 (M15.1 8 0 12) M15).bind fun r16 =>
      if r16 = x3 then
        f_X10_drawn_55 x1 x2 x3 x4 n (x5 + (1 : Int32)) (x6 + (1 : Int32)) (x7 + (1 : Int32)) M15
      else
        f_X10_drawn_55 x1 x2 x3 x4 n (x5 + (1 : Int32)) x6 (x7 + (1 : Int32)) M15
    else
      f_X10_drawn_55 x1 x2 x3 x4 n x5 x6 (x7 + (1 : Int32)) M
  else
    (f_X10_tellFraction x6.toInt64 x5.toInt64 M).bind fun M9 =>
    (f_X10_agree M9).bind fun q10 =>
    if isB q10.1 = true then some (q10.1, q10.2) else none
noncomputable def f_X10_drawn (x1 : Int32) (x2 : Int32) (x3 : Int32) (M : Mem) : Option (Int32 × Mem) :=
  if x1 < (1 : Int32) then
    (f_X10_refuse (5 : Int32) M).bind fun q1 =>
    if isB q1.1 = true then some (q1.1, q1.2) else none
  else
    if (M.1 9 0 0) < x1 then
      (f_X10_refuse (5 : Int32) M).bind fun q3 =>
      if isB q3.1 = true then some (q3.1, q3.2) else none
    else
      (f_X10_isNoFewRounds x2).bind fun r5 =>
      if r5 = 0 then
        (f_X10_isNoVerdict x3.toInt64).bind fun r8 =>
        if r8 = 0 then
          f_X10_drawn_55 x1 x2 x3 (M.1 9 0 0) FU (0 : Int32) (0 : Int32) (1 : Int32) M
        else
          (f_X10_refuse (5 : Int32) M).bind fun q17 =>
          if isB q17.1 = true then some (q17.1, q17.2) else none
      else
        (f_X10_refuse (5 : Int32) M).bind fun q6 =>
        if isB q6.1 = true then some (q6.1, q6.2) else none
set_option maxRecDepth 20000 in
set_option maxHeartbeats 2000000 in
theorem b_X10_drawn_55 {E : wEnv} {Y : YT} (C : Cx E Y cX10_drawn 8 RX10 5) {q : (Int32 × Mem)} (R : Rx E Y (some .boolean) (some (.int q.1)) q.2) {x1 : Int32} {x2 : Int32} {x3 : Int32} {x4 : Int32} (n : Nat) : ∀ {x5 : Int32} {x6 : Int32} {x7 : Int32} {M : Mem} (_ : f_X10_drawn_55 x1 x2 x3 x4 n x5 x6 x7 M = some q), G E Y 8 M 55 [(0, .ref (ad E 0 0)), (1, .int x1), (2, .int x2), (3, .int x3), (4, .int x4), (5, .int x5), (6, .int x6), (7, .int x7)] [] := by
  induction n with
  | zero =>
    intro x5 x6 x7 M h
    cases (show none = some q from h)
  | succ n ih =>
    intro x5 x6 x7 M h
    rw [f_X10_drawn_55] at h
    refine g_iload C dX10_drawn_55 rfl ?_
    refine g_iconst (v := (1 : Int32)) C dX10_drawn_57 (by decide) ?_
    refine g_iload C dX10_drawn_58 rfl ?_
    refine g_ishl C dX10_drawn_60 ?_
    refine g_icmp_ge (tgt := 144) C dX10_drawn_61 (by decide) h (fun h => ?_) (fun h => ?_)
    · refine g_aload_n C dX10_drawn_144 rfl rfl ?_
      refine g_iload C dX10_drawn_145 rfl ?_
      refine g_i2l C dX10_drawn_147 ?_
      refine g_iload C dX10_drawn_148 rfl ?_
      refine g_i2l C dX10_drawn_150 ?_
      obtain ⟨M9, hr9, h⟩ := Option.bind_eq_some_iff.mp h
      refine call_X10_386 C dX10_drawn_151 (by decide) (c_X10_tellFraction E hr9) (by decide) rfl ?_
      refine g_aload_n C dX10_drawn_154 rfl rfl ?_
      obtain ⟨q10, hr10, h⟩ := Option.bind_eq_some_iff.mp h
      refine call_X10_121 C dX10_drawn_155 (by decide) (c_X10_agree E hr10) (by decide) rfl ?_
      obtain ⟨hz11, h⟩ := of_ite h
      exact g_zret C R dX10_drawn_158 (fst_of h) (isB_of hz11) (snd_of h)
    · refine g_iload C dX10_drawn_64 rfl ?_
      obtain ⟨r12, hr12, h⟩ := Option.bind_eq_some_iff.mp h
      refine call_X10_378 C dX10_drawn_66 (c_J6_bitCount_0f7a4 E hr12) (by decide) rfl ?_
      refine g_iload_n C dX10_drawn_69 rfl rfl ?_
      refine g_icmp_ne (tgt := 138) C dX10_drawn_70 (by decide) h (fun h => ?_) (fun h => ?_)
      · refine g_iinc (w := (1 : Int32)) C dX10_drawn_138 rfl (by decide) rfl ?_
        refine g_goto (tgt := 55) C dX10_drawn_141 (by decide) ?_
        exact g_sub (ih h) ⟨rfl, rfl, rfl, rfl, rfl, rfl, rfl, rfl, trivial⟩
      · refine g_iinc (w := (1 : Int32)) C dX10_drawn_73 rfl (by decide) rfl ?_
        refine g_aload_n C dX10_drawn_76 rfl rfl ?_
        refine get_X10_72 C dX10_drawn_77 (by decide) ?_
        refine g_aload_n C dX10_drawn_80 rfl rfl ?_
        refine get_X10_19 C dX10_drawn_81 (by decide) ?_
        refine get_X10_175 C dX10_drawn_84 (by decide) ?_
        obtain ⟨M13, hr13, h⟩ := Option.bind_eq_some_iff.mp h
        refine call_X10_383 C dX10_drawn_87 (by decide) (c_X3_openDay E (by decide) (by decide) hr13) (by decide) rfl ?_
        refine g_aload_n C dX10_drawn_90 rfl rfl ?_
        refine get_X10_72 C dX10_drawn_91 (by decide) ?_
        refine g_iload C dX10_drawn_94 rfl ?_
        refine put_X10_231 C dX10_drawn_96 (by decide) ?_
        refine g_aload_n C dX10_drawn_99 rfl rfl ?_
        refine get_X10_72 C dX10_drawn_100 (by decide) ?_
        refine g_aload_n C dX10_drawn_103 rfl rfl ?_
        refine get_X10_19 C dX10_drawn_104 (by decide) ?_
        refine get_X10_175 C dX10_drawn_107 (by decide) ?_
        refine g_iload_n C dX10_drawn_110 rfl rfl ?_
        obtain ⟨M15, hr15, h⟩ := Option.bind_eq_some_iff.mp h
        refine call_X10_282 C dX10_drawn_111 (by decide) (c_X3_talkOn E (by decide) (by decide) hr15) (by decide) rfl ?_
        refine g_aload_n C dX10_drawn_114 rfl rfl ?_
        refine get_X10_72 C dX10_drawn_115 (by decide) ?_
        refine g_aload_n C dX10_drawn_118 rfl rfl ?_
        refine get_X10_19 C dX10_drawn_119 (by decide) ?_
        refine get_X10_175 C dX10_drawn_122 (by decide) ?_
        refine get_X10_213 C dX10_drawn_125 (by decide) ?_
        obtain ⟨r16, hr16, h⟩ := Option.bind_eq_some_iff.mp h
        refine call_X10_286 C dX10_drawn_128 (by decide) (c_X3_ruling E (by decide) hr16) (by decide) rfl ?_
        refine g_iload_n C dX10_drawn_131 rfl rfl ?_
        refine g_icmp_ne (tgt := 138) C dX10_drawn_132 (by decide) h (fun h => ?_) (fun h => ?_)
        · refine g_iinc (w := (1 : Int32)) C dX10_drawn_138 rfl (by decide) rfl ?_
          refine g_goto (tgt := 55) C dX10_drawn_141 (by decide) ?_
          exact g_sub (ih h) ⟨rfl, rfl, rfl, rfl, rfl, rfl, rfl, rfl, trivial⟩
        · refine g_iinc (w := (1 : Int32)) C dX10_drawn_135 rfl (by decide) rfl ?_
          refine g_iinc (w := (1 : Int32)) C dX10_drawn_138 rfl (by decide) rfl ?_
          refine g_goto (tgt := 55) C dX10_drawn_141 (by decide) ?_
          exact g_sub (ih h) ⟨rfl, rfl, rfl, rfl, rfl, rfl, rfl, rfl, trivial⟩
set_option maxRecDepth 20000 in
set_option maxHeartbeats 2000000 in
theorem c_X10_drawn (E : wEnv) {x1 : Int32} {x2 : Int32} {x3 : Int32} {M : Mem} {q : (Int32 × Mem)} (h : f_X10_drawn x1 x2 x3 M = some q) : Mt E yX10_drawn cX10_drawn 8 (some .boolean) 5 [.ref (ad E 0 0), .int x1, .int x2, .int x3] M (some (.int q.1)) q.2 := by
  unfold f_X10_drawn at h
  refine mt_intro (own := RX10) (lv0 := [(0, .ref (ad E 0 0)), (1, .int x1), (2, .int x2), (3, .int x3)]) (by decide) rfl rfl rfl (fun Y C R => ?_)
  refine g_aload_n C dX10_drawn_0 rfl rfl ?_
  refine get_X10_19 C dX10_drawn_1 (by decide) ?_
  refine get_X10_175 C dX10_drawn_4 (by decide) ?_
  refine get_X10_194 C dX10_drawn_7 (by decide) ?_
  refine g_iconst (v := (0 : Int32)) C dX10_drawn_10 (by decide) ?_
  refine ld_9 (j := 0) C dX10_drawn_11 (by decide) (by decide) rfl ?_
  refine g_istore C dX10_drawn_12 rfl ?_
  refine g_iload_n C dX10_drawn_14 rfl rfl ?_
  refine g_iconst (v := (1 : Int32)) C dX10_drawn_15 (by decide) ?_
  refine g_icmp_lt (tgt := 40) C dX10_drawn_16 (by decide) h (fun h => ?_) (fun h => ?_)
  · refine g_aload_n C dX10_drawn_40 rfl rfl ?_
    refine g_iconst (v := (5 : Int32)) C dX10_drawn_41 (by decide) ?_
    obtain ⟨q1, hr1, h⟩ := Option.bind_eq_some_iff.mp h
    refine call_X10_114 C dX10_drawn_42 (by decide) (c_X10_refuse E hr1) (by decide) rfl ?_
    obtain ⟨hz2, h⟩ := of_ite h
    exact g_zret C R dX10_drawn_45 (fst_of h) (isB_of hz2) (snd_of h)
  · refine g_iload_n C dX10_drawn_19 rfl rfl ?_
    refine g_iload C dX10_drawn_20 rfl ?_
    refine g_icmp_gt (tgt := 40) C dX10_drawn_22 (by decide) h (fun h => ?_) (fun h => ?_)
    · refine g_aload_n C dX10_drawn_40 rfl rfl ?_
      refine g_iconst (v := (5 : Int32)) C dX10_drawn_41 (by decide) ?_
      obtain ⟨q3, hr3, h⟩ := Option.bind_eq_some_iff.mp h
      refine call_X10_114 C dX10_drawn_42 (by decide) (c_X10_refuse E hr3) (by decide) rfl ?_
      obtain ⟨hz4, h⟩ := of_ite h
      exact g_zret C R dX10_drawn_45 (fst_of h) (isB_of hz4) (snd_of h)
    · refine g_iload_n C dX10_drawn_25 rfl rfl ?_
      obtain ⟨r5, hr5, h⟩ := Option.bind_eq_some_iff.mp h
      refine call_X10_356 C dX10_drawn_26 (c_X10_isNoFewRounds E hr5) (by decide) rfl ?_
      refine g_if_ne (tgt := 40) C dX10_drawn_29 (by decide) h (fun h => ?_) (fun h => ?_)
      · refine g_aload_n C dX10_drawn_40 rfl rfl ?_
        refine g_iconst (v := (5 : Int32)) C dX10_drawn_41 (by decide) ?_
        obtain ⟨q6, hr6, h⟩ := Option.bind_eq_some_iff.mp h
        refine call_X10_114 C dX10_drawn_42 (by decide) (c_X10_refuse E hr6) (by decide) rfl ?_
        obtain ⟨hz7, h⟩ := of_ite h
        exact g_zret C R dX10_drawn_45 (fst_of h) (isB_of hz7) (snd_of h)
      · refine g_iload_n C dX10_drawn_32 rfl rfl ?_
        refine g_i2l C dX10_drawn_33 ?_
        obtain ⟨r8, hr8, h⟩ := Option.bind_eq_some_iff.mp h
        refine call_X10_259 C dX10_drawn_34 (c_X10_isNoVerdict E hr8) (by decide) rfl ?_
        refine g_if_eq (tgt := 46) C dX10_drawn_37 (by decide) h (fun h => ?_) (fun h => ?_)
        · refine g_iconst (v := (0 : Int32)) C dX10_drawn_46 (by decide) ?_
          refine g_istore C dX10_drawn_47 rfl ?_
          refine g_iconst (v := (0 : Int32)) C dX10_drawn_49 (by decide) ?_
          refine g_istore C dX10_drawn_50 rfl ?_
          refine g_iconst (v := (1 : Int32)) C dX10_drawn_52 (by decide) ?_
          refine g_istore C dX10_drawn_53 rfl ?_
          exact g_sub (b_X10_drawn_55 C R _ h) ⟨rfl, rfl, rfl, rfl, rfl, rfl, rfl, rfl, trivial⟩
        · refine g_aload_n C dX10_drawn_40 rfl rfl ?_
          refine g_iconst (v := (5 : Int32)) C dX10_drawn_41 (by decide) ?_
          obtain ⟨q17, hr17, h⟩ := Option.bind_eq_some_iff.mp h
          refine call_X10_114 C dX10_drawn_42 (by decide) (c_X10_refuse E hr17) (by decide) rfl ?_
          obtain ⟨hz18, h⟩ := of_ite h
          exact g_zret C R dX10_drawn_45 (fst_of h) (isB_of hz18) (snd_of h)
noncomputable def f_X10_wrongVerdicts_22 (x1 : Int32) (x2 : Int32) (M : Mem) : Nat → Int32 → Option Int32
  | 0, _ => none
  | n + 1, x4 =>
  if x4 < x2 then
    if inb x1 4 = true then
     if inb x4 60 = true then
      (f_X10_isNoVerdict (M.2 4 x1.toNatClampNeg x4.toNatClampNeg)).bind fun r5 =>
      if r5 = 0 then
        f_X10_wrongVerdicts_22 x1 x2 M n (x4 + (1 : Int32))
      else
        some (5 : Int32)
     else none
    else none
  else
    (f_X10_hasNoWeather M).bind fun r2 =>
    if r2 = 0 then
      some (0 : Int32)
    else
      some (8 : Int32)
noncomputable def f_X10_wrongVerdicts (x1 : Int32) (x2 : Int32) (M : Mem) : Option Int32 :=
  (f_X10_wrongRow x1 x2 M).bind fun r1 =>
  if r1 = 0 then
    if x2 < 0 then
      some (5 : Int32)
    else
      f_X10_wrongVerdicts_22 x1 x2 M FU (0 : Int32)
  else
    some r1
set_option maxRecDepth 20000 in
set_option maxHeartbeats 2000000 in
theorem b_X10_wrongVerdicts_22 {E : wEnv} {Y : YT} (C : Cx E Y cX10_wrongVerdicts 5 RX10 3) {q : Int32} {M : Mem} (R : Rx E Y (some .int) (some (.int q)) M) {x1 : Int32} {x2 : Int32} (n : Nat) : ∀ {x4 : Int32} (_ : f_X10_wrongVerdicts_22 x1 x2 M n x4 = some q), G E Y 5 M 22 [(0, .ref (ad E 0 0)), (1, .int x1), (2, .int x2), (4, .int x4)] [] := by
  induction n with
  | zero =>
    intro x4 h
    cases (show none = some q from h)
  | succ n ih =>
    intro x4 h
    rw [f_X10_wrongVerdicts_22] at h
    refine g_iload C dX10_wrongVerdicts_22 rfl ?_
    refine g_iload_n C dX10_wrongVerdicts_24 rfl rfl ?_
    refine g_icmp_ge (tgt := 54) C dX10_wrongVerdicts_25 (by decide) h (fun h => ?_) (fun h => ?_)
    · refine g_aload_n C dX10_wrongVerdicts_54 rfl rfl ?_
      obtain ⟨r2, hr2, h⟩ := Option.bind_eq_some_iff.mp h
      refine call_X10_222 C dX10_wrongVerdicts_55 (by decide) (c_X10_hasNoWeather E hr2) (by decide) rfl ?_
      refine g_if_eq (tgt := 66) C dX10_wrongVerdicts_58 (by decide) h (fun h => ?_) (fun h => ?_)
      · refine g_iconst (v := (0 : Int32)) C dX10_wrongVerdicts_66 (by decide) ?_
        exact g_iret C R dX10_wrongVerdicts_67 (Option.some.inj h) rfl
      · refine g_bipush (v := (8 : Int32)) C dX10_wrongVerdicts_61 (by decide) ?_
        refine g_goto (tgt := 67) C dX10_wrongVerdicts_63 (by decide) ?_
        exact g_iret C R dX10_wrongVerdicts_67 (Option.some.inj h) rfl
    · refine g_aload_n C dX10_wrongVerdicts_28 rfl rfl ?_
      refine get_X10_10 C dX10_wrongVerdicts_29 (by decide) ?_
      refine get_X10_137 C dX10_wrongVerdicts_32 (by decide) ?_
      refine g_iload_n C dX10_wrongVerdicts_35 rfl rfl ?_
      obtain ⟨hb3, h⟩ := of_ite h
      refine ld_3 (j := _) C dX10_wrongVerdicts_36 (by decide) hb3 rfl ?_
      refine g_iload C dX10_wrongVerdicts_37 rfl ?_
      obtain ⟨hb4, h⟩ := of_ite h
      refine ld_4 (j := _) C dX10_wrongVerdicts_39 (inb_lt hb3) hb4 rfl ?_
      obtain ⟨r5, hr5, h⟩ := Option.bind_eq_some_iff.mp h
      refine call_X10_259 C dX10_wrongVerdicts_40 (c_X10_isNoVerdict E hr5) (by decide) rfl ?_
      refine g_if_eq (tgt := 48) C dX10_wrongVerdicts_43 (by decide) h (fun h => ?_) (fun h => ?_)
      · refine g_iinc (w := (1 : Int32)) C dX10_wrongVerdicts_48 rfl (by decide) rfl ?_
        refine g_goto (tgt := 22) C dX10_wrongVerdicts_51 (by decide) ?_
        exact g_sub (ih h) ⟨rfl, rfl, rfl, rfl, trivial⟩
      · refine g_iconst (v := (5 : Int32)) C dX10_wrongVerdicts_46 (by decide) ?_
        exact g_iret C R dX10_wrongVerdicts_47 (Option.some.inj h) rfl
set_option maxRecDepth 20000 in
set_option maxHeartbeats 2000000 in
theorem c_X10_wrongVerdicts (E : wEnv) {x1 : Int32} {x2 : Int32} {M : Mem} {q : Int32} (h : f_X10_wrongVerdicts x1 x2 M = some q) : Mt E yX10_wrongVerdicts cX10_wrongVerdicts 5 (some .int) 3 [.ref (ad E 0 0), .int x1, .int x2] M (some (.int q)) M := by
  unfold f_X10_wrongVerdicts at h
  refine mt_intro (own := RX10) (lv0 := [(0, .ref (ad E 0 0)), (1, .int x1), (2, .int x2)]) (by decide) rfl rfl rfl (fun Y C R => ?_)
  refine g_aload_n C dX10_wrongVerdicts_0 rfl rfl ?_
  refine g_iload_n C dX10_wrongVerdicts_1 rfl rfl ?_
  refine g_iload_n C dX10_wrongVerdicts_2 rfl rfl ?_
  obtain ⟨r1, hr1, h⟩ := Option.bind_eq_some_iff.mp h
  refine call_X10_272 C dX10_wrongVerdicts_3 (by decide) (c_X10_wrongRow E hr1) (by decide) rfl ?_
  refine g_istore_n C dX10_wrongVerdicts_6 rfl rfl ?_
  refine g_iload_n C dX10_wrongVerdicts_7 rfl rfl ?_
  refine g_if_eq (tgt := 13) C dX10_wrongVerdicts_8 (by decide) h (fun h => ?_) (fun h => ?_)
  · refine g_iload_n C dX10_wrongVerdicts_13 rfl rfl ?_
    refine g_if_ge (tgt := 19) C dX10_wrongVerdicts_14 (by decide) h (fun h => ?_) (fun h => ?_)
    · refine g_iconst (v := (0 : Int32)) C dX10_wrongVerdicts_19 (by decide) ?_
      refine g_istore C dX10_wrongVerdicts_20 rfl ?_
      exact g_sub (b_X10_wrongVerdicts_22 C R _ h) ⟨rfl, rfl, rfl, rfl, trivial⟩
    · refine g_iconst (v := (5 : Int32)) C dX10_wrongVerdicts_17 (by decide) ?_
      exact g_iret C R dX10_wrongVerdicts_18 (Option.some.inj h) rfl
  · refine g_iload_n C dX10_wrongVerdicts_11 rfl rfl ?_
    exact g_iret C R dX10_wrongVerdicts_12 (Option.some.inj h) rfl
noncomputable def f_X10_row_32 (x1 : Int32) (x2 : Int32) (M : Mem) : Nat → Int32 → Int32 → Option (Int32 × Mem)
  | 0, _, _ => none
  | n + 1, x4, x5 =>
  if x5 < x2 then
    if inb x1 4 = true then
     if inb x5 60 = true then
      (f_X1_weatherBehind 0 x4 ((M.2 4 x1.toNatClampNeg x5.toNatClampNeg).toInt32) M).bind fun r5 =>
      f_X10_row_32 x1 x2 M n r5 (x5 + (1 : Int32))
     else none
    else none
  else
    (f_X10_answer x4 M).bind fun q2 =>
    some (q2.1, q2.2)
noncomputable def f_X10_row (x1 : Int32) (x2 : Int32) (M : Mem) : Option (Int32 × Mem) :=
  (f_X10_wrongVerdicts x1 x2 M).bind fun r1 =>
  if r1 = 0 then
    f_X10_row_32 x1 x2 M FU (M.1 20 0 6) (0 : Int32)
  else
    (f_X10_none r1 M).bind fun q6 =>
    some (q6.1, q6.2)
set_option maxRecDepth 20000 in
set_option maxHeartbeats 2000000 in
theorem b_X10_row_32 {E : wEnv} {Y : YT} (C : Cx E Y cX10_row 6 RX10 4) {q : (Int32 × Mem)} {M : Mem} (R : Rx E Y (some .int) (some (.int q.1)) q.2) {x1 : Int32} {x2 : Int32} (n : Nat) : ∀ {x4 : Int32} {x5 : Int32} (_ : f_X10_row_32 x1 x2 M n x4 x5 = some q), G E Y 6 M 32 [(0, .ref (ad E 0 0)), (1, .int x1), (2, .int x2), (4, .int x4), (5, .int x5)] [] := by
  induction n with
  | zero =>
    intro x4 x5 h
    cases (show none = some q from h)
  | succ n ih =>
    intro x4 x5 h
    rw [f_X10_row_32] at h
    refine g_iload C dX10_row_32 rfl ?_
    refine g_iload_n C dX10_row_34 rfl rfl ?_
    refine g_icmp_ge (tgt := 71) C dX10_row_35 (by decide) h (fun h => ?_) (fun h => ?_)
    · refine g_aload_n C dX10_row_71 rfl rfl ?_
      refine g_iload C dX10_row_72 rfl ?_
      obtain ⟨q2, hr2, h⟩ := Option.bind_eq_some_iff.mp h
      refine call_X10_197 C dX10_row_74 (by decide) (c_X10_answer E hr2) (by decide) rfl ?_
      exact g_iret C R dX10_row_77 (fst_of h) (snd_of h)
    · refine g_aload_n C dX10_row_38 rfl rfl ?_
      refine get_X10_19 C dX10_row_39 (by decide) ?_
      refine get_X10_175 C dX10_row_42 (by decide) ?_
      refine g_iload C dX10_row_45 rfl ?_
      refine g_aload_n C dX10_row_47 rfl rfl ?_
      refine get_X10_10 C dX10_row_48 (by decide) ?_
      refine get_X10_137 C dX10_row_51 (by decide) ?_
      refine g_iload_n C dX10_row_54 rfl rfl ?_
      obtain ⟨hb3, h⟩ := of_ite h
      refine ld_3 (j := _) C dX10_row_55 (by decide) hb3 rfl ?_
      refine g_iload C dX10_row_56 rfl ?_
      obtain ⟨hb4, h⟩ := of_ite h
      refine ld_4 (j := _) C dX10_row_58 (inb_lt hb3) hb4 rfl ?_
      refine g_l2i C dX10_row_59 ?_
      obtain ⟨r5, hr5, h⟩ := Option.bind_eq_some_iff.mp h
      refine call_X10_263 C dX10_row_60 (by decide) (c_X1_weatherBehind E (by decide) hr5) (by decide) rfl ?_
      refine g_istore C dX10_row_63 rfl ?_
      refine g_iinc (w := (1 : Int32)) C dX10_row_65 rfl (by decide) rfl ?_
      refine g_goto (tgt := 32) C dX10_row_68 (by decide) ?_
      exact g_sub (ih h) ⟨rfl, rfl, rfl, rfl, rfl, trivial⟩
set_option maxRecDepth 20000 in
set_option maxHeartbeats 2000000 in
theorem c_X10_row (E : wEnv) {x1 : Int32} {x2 : Int32} {M : Mem} {q : (Int32 × Mem)} (h : f_X10_row x1 x2 M = some q) : Mt E yX10_row cX10_row 6 (some .int) 4 [.ref (ad E 0 0), .int x1, .int x2] M (some (.int q.1)) q.2 := by
  unfold f_X10_row at h
  refine mt_intro (own := RX10) (lv0 := [(0, .ref (ad E 0 0)), (1, .int x1), (2, .int x2)]) (by decide) rfl rfl rfl (fun Y C R => ?_)
  refine g_aload_n C dX10_row_0 rfl rfl ?_
  refine g_iload_n C dX10_row_1 rfl rfl ?_
  refine g_iload_n C dX10_row_2 rfl rfl ?_
  obtain ⟨r1, hr1, h⟩ := Option.bind_eq_some_iff.mp h
  refine call_X10_390 C dX10_row_3 (by decide) (c_X10_wrongVerdicts E hr1) (by decide) rfl ?_
  refine g_istore_n C dX10_row_6 rfl rfl ?_
  refine g_iload_n C dX10_row_7 rfl rfl ?_
  refine g_if_eq (tgt := 17) C dX10_row_8 (by decide) h (fun h => ?_) (fun h => ?_)
  · refine g_aload_n C dX10_row_17 rfl rfl ?_
    refine get_X10_19 C dX10_row_18 (by decide) ?_
    refine get_X10_182 C dX10_row_21 (by decide) ?_
    refine get_X10_225 C dX10_row_24 (by decide) ?_
    refine g_istore C dX10_row_27 rfl ?_
    refine g_iconst (v := (0 : Int32)) C dX10_row_29 (by decide) ?_
    refine g_istore C dX10_row_30 rfl ?_
    exact g_sub (b_X10_row_32 C R _ h) ⟨rfl, rfl, rfl, rfl, rfl, trivial⟩
  · refine g_aload_n C dX10_row_11 rfl rfl ?_
    refine g_iload_n C dX10_row_12 rfl rfl ?_
    obtain ⟨q6, hr6, h⟩ := Option.bind_eq_some_iff.mp h
    refine call_X10_133 C dX10_row_13 (by decide) (c_X10_none E hr6) (by decide) rfl ?_
    exact g_iret C R dX10_row_16 (fst_of h) (snd_of h)
noncomputable def f_X10_rowGrows_53 (x1 : Int32) (x2 : Int32) (x3 : Int32) (M : Mem) : Nat → Int32 → Int32 → Int32 → Option (Int32 × Mem)
  | 0, _, _, _ => none
  | n + 1, x5, x6, x7 =>
  if x7 < x2 then
    (f_X1_growthOf 0 x3 x5 M).bind fun r4 =>
    if inb x1 4 = true then
     if inb x7 60 = true then
      (f_X1_weatherBehind 0 x5 ((M.2 4 x1.toNatClampNeg x7.toNatClampNeg).toInt32) M).bind fun r7 =>
      f_X10_rowGrows_53 x1 x2 x3 M n r7 (x6 + r4) (x7 + (1 : Int32))
     else none
    else none
  else
    (f_X10_answer x6 M).bind fun q3 =>
    some (q3.1, q3.2)
noncomputable def f_X10_rowGrows (x1 : Int32) (x2 : Int32) (x3 : Int32) (M : Mem) : Option (Int32 × Mem) :=
  (f_X10_wrongVerdicts x1 x2 M).bind fun r1 =>
  if r1 = 0 then
    (f_X10_isNo (3 : Int32) x3 M).bind fun r2 =>
    if r2 = 0 then
      f_X10_rowGrows_53 x1 x2 x3 M FU (M.1 20 0 6) (0 : Int32) (0 : Int32)
    else
      (f_X10_none (2 : Int32) M).bind fun q8 =>
      some (q8.1, q8.2)
  else
    (f_X10_none r1 M).bind fun q9 =>
    some (q9.1, q9.2)
set_option maxRecDepth 20000 in
set_option maxHeartbeats 2000000 in
theorem b_X10_rowGrows_53 {E : wEnv} {Y : YT} (C : Cx E Y cX10_rowGrows 8 RX10 4) {q : (Int32 × Mem)} {M : Mem} (R : Rx E Y (some .int) (some (.int q.1)) q.2) {x1 : Int32} {x2 : Int32} {x3 : Int32} (n : Nat) : ∀ {x5 : Int32} {x6 : Int32} {x7 : Int32} (_ : f_X10_rowGrows_53 x1 x2 x3 M n x5 x6 x7 = some q), G E Y 8 M 53 [(0, .ref (ad E 0 0)), (1, .int x1), (2, .int x2), (3, .int x3), (5, .int x5), (6, .int x6), (7, .int x7)] [] := by
  induction n with
  | zero =>
    intro x5 x6 x7 h
    cases (show none = some q from h)
  | succ n ih =>
    intro x5 x6 x7 h
    rw [f_X10_rowGrows_53] at h
    refine g_iload C dX10_rowGrows_53 rfl ?_
    refine g_iload_n C dX10_rowGrows_55 rfl rfl ?_
    refine g_icmp_ge (tgt := 110) C dX10_rowGrows_56 (by decide) h (fun h => ?_) (fun h => ?_)
    · refine g_aload_n C dX10_rowGrows_110 rfl rfl ?_
      refine g_iload C dX10_rowGrows_111 rfl ?_
      obtain ⟨q3, hr3, h⟩ := Option.bind_eq_some_iff.mp h
      refine call_X10_197 C dX10_rowGrows_113 (by decide) (c_X10_answer E hr3) (by decide) rfl ?_
      exact g_iret C R dX10_rowGrows_116 (fst_of h) (snd_of h)
    · refine g_iload C dX10_rowGrows_59 rfl ?_
      refine g_aload_n C dX10_rowGrows_61 rfl rfl ?_
      refine get_X10_19 C dX10_rowGrows_62 (by decide) ?_
      refine get_X10_175 C dX10_rowGrows_65 (by decide) ?_
      refine g_iload_n C dX10_rowGrows_68 rfl rfl ?_
      refine g_iload C dX10_rowGrows_69 rfl ?_
      obtain ⟨r4, hr4, h⟩ := Option.bind_eq_some_iff.mp h
      refine call_X10_266 C dX10_rowGrows_71 (by decide) (c_X1_growthOf E (by decide) hr4) (by decide) rfl ?_
      refine g_iadd C dX10_rowGrows_74 ?_
      refine g_istore C dX10_rowGrows_75 rfl ?_
      refine g_aload_n C dX10_rowGrows_77 rfl rfl ?_
      refine get_X10_19 C dX10_rowGrows_78 (by decide) ?_
      refine get_X10_175 C dX10_rowGrows_81 (by decide) ?_
      refine g_iload C dX10_rowGrows_84 rfl ?_
      refine g_aload_n C dX10_rowGrows_86 rfl rfl ?_
      refine get_X10_10 C dX10_rowGrows_87 (by decide) ?_
      refine get_X10_137 C dX10_rowGrows_90 (by decide) ?_
      refine g_iload_n C dX10_rowGrows_93 rfl rfl ?_
      obtain ⟨hb5, h⟩ := of_ite h
      refine ld_3 (j := _) C dX10_rowGrows_94 (by decide) hb5 rfl ?_
      refine g_iload C dX10_rowGrows_95 rfl ?_
      obtain ⟨hb6, h⟩ := of_ite h
      refine ld_4 (j := _) C dX10_rowGrows_97 (inb_lt hb5) hb6 rfl ?_
      refine g_l2i C dX10_rowGrows_98 ?_
      obtain ⟨r7, hr7, h⟩ := Option.bind_eq_some_iff.mp h
      refine call_X10_263 C dX10_rowGrows_99 (by decide) (c_X1_weatherBehind E (by decide) hr7) (by decide) rfl ?_
      refine g_istore C dX10_rowGrows_102 rfl ?_
      refine g_iinc (w := (1 : Int32)) C dX10_rowGrows_104 rfl (by decide) rfl ?_
      refine g_goto (tgt := 53) C dX10_rowGrows_107 (by decide) ?_
      exact g_sub (ih h) ⟨rfl, rfl, rfl, rfl, rfl, rfl, rfl, trivial⟩
set_option maxRecDepth 20000 in
set_option maxHeartbeats 2000000 in
theorem c_X10_rowGrows (E : wEnv) {x1 : Int32} {x2 : Int32} {x3 : Int32} {M : Mem} {q : (Int32 × Mem)} (h : f_X10_rowGrows x1 x2 x3 M = some q) : Mt E yX10_rowGrows cX10_rowGrows 8 (some .int) 4 [.ref (ad E 0 0), .int x1, .int x2, .int x3] M (some (.int q.1)) q.2 := by
  unfold f_X10_rowGrows at h
  refine mt_intro (own := RX10) (lv0 := [(0, .ref (ad E 0 0)), (1, .int x1), (2, .int x2), (3, .int x3)]) (by decide) rfl rfl rfl (fun Y C R => ?_)
  refine g_aload_n C dX10_rowGrows_0 rfl rfl ?_
  refine g_iload_n C dX10_rowGrows_1 rfl rfl ?_
  refine g_iload_n C dX10_rowGrows_2 rfl rfl ?_
  obtain ⟨r1, hr1, h⟩ := Option.bind_eq_some_iff.mp h
  refine call_X10_390 C dX10_rowGrows_3 (by decide) (c_X10_wrongVerdicts E hr1) (by decide) rfl ?_
  refine g_istore C dX10_rowGrows_6 rfl ?_
  refine g_iload C dX10_rowGrows_8 rfl ?_
  refine g_if_eq (tgt := 20) C dX10_rowGrows_10 (by decide) h (fun h => ?_) (fun h => ?_)
  · refine g_aload_n C dX10_rowGrows_20 rfl rfl ?_
    refine g_iconst (v := (3 : Int32)) C dX10_rowGrows_21 (by decide) ?_
    refine g_iload_n C dX10_rowGrows_22 rfl rfl ?_
    obtain ⟨r2, hr2, h⟩ := Option.bind_eq_some_iff.mp h
    refine call_X10_237 C dX10_rowGrows_23 (by decide) (c_X10_isNo E hr2) (by decide) rfl ?_
    refine g_if_eq (tgt := 35) C dX10_rowGrows_26 (by decide) h (fun h => ?_) (fun h => ?_)
    · refine g_aload_n C dX10_rowGrows_35 rfl rfl ?_
      refine get_X10_19 C dX10_rowGrows_36 (by decide) ?_
      refine get_X10_182 C dX10_rowGrows_39 (by decide) ?_
      refine get_X10_225 C dX10_rowGrows_42 (by decide) ?_
      refine g_istore C dX10_rowGrows_45 rfl ?_
      refine g_iconst (v := (0 : Int32)) C dX10_rowGrows_47 (by decide) ?_
      refine g_istore C dX10_rowGrows_48 rfl ?_
      refine g_iconst (v := (0 : Int32)) C dX10_rowGrows_50 (by decide) ?_
      refine g_istore C dX10_rowGrows_51 rfl ?_
      exact g_sub (b_X10_rowGrows_53 C R _ h) ⟨rfl, rfl, rfl, rfl, rfl, rfl, rfl, trivial⟩
    · refine g_aload_n C dX10_rowGrows_29 rfl rfl ?_
      refine g_iconst (v := (2 : Int32)) C dX10_rowGrows_30 (by decide) ?_
      obtain ⟨q8, hr8, h⟩ := Option.bind_eq_some_iff.mp h
      refine call_X10_133 C dX10_rowGrows_31 (by decide) (c_X10_none E hr8) (by decide) rfl ?_
      exact g_iret C R dX10_rowGrows_34 (fst_of h) (snd_of h)
  · refine g_aload_n C dX10_rowGrows_13 rfl rfl ?_
    refine g_iload C dX10_rowGrows_14 rfl ?_
    obtain ⟨q9, hr9, h⟩ := Option.bind_eq_some_iff.mp h
    refine call_X10_133 C dX10_rowGrows_16 (by decide) (c_X10_none E hr9) (by decide) rfl ?_
    exact g_iret C R dX10_rowGrows_19 (fst_of h) (snd_of h)
noncomputable def f_X10_way_30 (x1 : Int32) (M : Mem) : Nat → Int32 → Int32 → Option (Int32 × Mem)
  | 0, _, _ => none
  | n + 1, x2, x3 =>
  if x3 < (6 : Int32) then
    if ((x2 >>> (x1 &&& 31)) &&& (1 : Int32)) = 0 then
      (f_X1_dayMore 0 x2 M).bind fun r4 =>
      f_X10_way_30 x1 M n r4 (x3 + (1 : Int32))
    else
      (f_X10_answer x3 M).bind fun q5 =>
      some (q5.1, q5.2)
  else
    (f_X10_none (8 : Int32) M).bind fun q3 =>
    some (q3.1, q3.2)
noncomputable def f_X10_way (x1 : Int32) (M : Mem) : Option (Int32 × Mem) :=
  (f_X10_isNo (2 : Int32) x1 M).bind fun r1 =>
  if r1 = 0 then
    let x2_2 := ((1 : Int32) <<< ((M.1 20 0 6) &&& 31))
    f_X10_way_30 x1 M FU x2_2 (0 : Int32)
  else
    (f_X10_none (2 : Int32) M).bind fun q6 =>
    some (q6.1, q6.2)
set_option maxRecDepth 20000 in
set_option maxHeartbeats 2000000 in
theorem b_X10_way_30 {E : wEnv} {Y : YT} (C : Cx E Y cX10_way 4 RX10 1) {q : (Int32 × Mem)} {M : Mem} (R : Rx E Y (some .int) (some (.int q.1)) q.2) {x1 : Int32} (n : Nat) : ∀ {x2 : Int32} {x3 : Int32} (_ : f_X10_way_30 x1 M n x2 x3 = some q), G E Y 4 M 30 [(0, .ref (ad E 0 0)), (1, .int x1), (2, .int x2), (3, .int x3)] [] := by
  induction n with
  | zero =>
    intro x2 x3 h
    cases (show none = some q from h)
  | succ n ih =>
    intro x2 x3 h
    rw [f_X10_way_30] at h
    refine g_iload_n C dX10_way_30 rfl rfl ?_
    refine g_bipush (v := (6 : Int32)) C dX10_way_31 (by decide) ?_
    refine g_icmp_ge (tgt := 68) C dX10_way_33 (by decide) h (fun h => ?_) (fun h => ?_)
    · refine g_aload_n C dX10_way_68 rfl rfl ?_
      refine g_bipush (v := (8 : Int32)) C dX10_way_69 (by decide) ?_
      obtain ⟨q3, hr3, h⟩ := Option.bind_eq_some_iff.mp h
      refine call_X10_133 C dX10_way_71 (by decide) (c_X10_none E hr3) (by decide) rfl ?_
      exact g_iret C R dX10_way_74 (fst_of h) (snd_of h)
    · refine g_iload_n C dX10_way_36 rfl rfl ?_
      refine g_iload_n C dX10_way_37 rfl rfl ?_
      refine g_ishr C dX10_way_38 ?_
      refine g_iconst (v := (1 : Int32)) C dX10_way_39 (by decide) ?_
      refine g_iand C dX10_way_40 ?_
      refine g_if_eq (tgt := 50) C dX10_way_41 (by decide) h (fun h => ?_) (fun h => ?_)
      · refine g_aload_n C dX10_way_50 rfl rfl ?_
        refine get_X10_19 C dX10_way_51 (by decide) ?_
        refine get_X10_175 C dX10_way_54 (by decide) ?_
        refine g_iload_n C dX10_way_57 rfl rfl ?_
        obtain ⟨r4, hr4, h⟩ := Option.bind_eq_some_iff.mp h
        refine call_X10_393 C dX10_way_58 (by decide) (c_X1_dayMore E (by decide) hr4) (by decide) rfl ?_
        refine g_istore_n C dX10_way_61 rfl rfl ?_
        refine g_iinc (w := (1 : Int32)) C dX10_way_62 rfl (by decide) rfl ?_
        refine g_goto (tgt := 30) C dX10_way_65 (by decide) ?_
        exact g_sub (ih h) ⟨rfl, rfl, rfl, rfl, trivial⟩
      · refine g_aload_n C dX10_way_44 rfl rfl ?_
        refine g_iload_n C dX10_way_45 rfl rfl ?_
        obtain ⟨q5, hr5, h⟩ := Option.bind_eq_some_iff.mp h
        refine call_X10_197 C dX10_way_46 (by decide) (c_X10_answer E hr5) (by decide) rfl ?_
        exact g_iret C R dX10_way_49 (fst_of h) (snd_of h)
set_option maxRecDepth 20000 in
set_option maxHeartbeats 2000000 in
theorem c_X10_way (E : wEnv) {x1 : Int32} {M : Mem} {q : (Int32 × Mem)} (h : f_X10_way x1 M = some q) : Mt E yX10_way cX10_way 4 (some .int) 1 [.ref (ad E 0 0), .int x1] M (some (.int q.1)) q.2 := by
  unfold f_X10_way at h
  refine mt_intro (own := RX10) (lv0 := [(0, .ref (ad E 0 0)), (1, .int x1)]) (by decide) rfl rfl rfl (fun Y C R => ?_)
  refine g_aload_n C dX10_way_0 rfl rfl ?_
  refine g_iconst (v := (2 : Int32)) C dX10_way_1 (by decide) ?_
  refine g_iload_n C dX10_way_2 rfl rfl ?_
  obtain ⟨r1, hr1, h⟩ := Option.bind_eq_some_iff.mp h
  refine call_X10_237 C dX10_way_3 (by decide) (c_X10_isNo E hr1) (by decide) rfl ?_
  refine g_if_eq (tgt := 15) C dX10_way_6 (by decide) h (fun h => ?_) (fun h => ?_)
  · refine g_iconst (v := (1 : Int32)) C dX10_way_15 (by decide) ?_
    refine g_aload_n C dX10_way_16 rfl rfl ?_
    refine get_X10_19 C dX10_way_17 (by decide) ?_
    refine get_X10_182 C dX10_way_20 (by decide) ?_
    refine get_X10_225 C dX10_way_23 (by decide) ?_
    refine g_ishl C dX10_way_26 ?_
    refine g_istore_n C dX10_way_27 rfl rfl ?_
    refine g_iconst (v := (0 : Int32)) C dX10_way_28 (by decide) ?_
    refine g_istore_n C dX10_way_29 rfl rfl ?_
    exact g_sub (b_X10_way_30 C R _ h) ⟨rfl, rfl, rfl, rfl, trivial⟩
  · refine g_aload_n C dX10_way_9 rfl rfl ?_
    refine g_iconst (v := (2 : Int32)) C dX10_way_10 (by decide) ?_
    obtain ⟨q6, hr6, h⟩ := Option.bind_eq_some_iff.mp h
    refine call_X10_133 C dX10_way_11 (by decide) (c_X10_none E hr6) (by decide) rfl ?_
    exact g_iret C R dX10_way_14 (fst_of h) (snd_of h)
noncomputable def f_X10_wrongHarvest (x1 : Int32) (x2 : Int32) (M : Mem) : Option Int32 :=
  (f_X10_isNo (3 : Int32) x1 M).bind fun r1 =>
  if r1 = 0 then
    if x2 < (1 : Int32) then
      some (5 : Int32)
    else
      if (20 : Int32) < x2 then
        some (5 : Int32)
      else
        (f_X10_hasNoWeather M).bind fun r2 =>
        if r2 = 0 then
          some (0 : Int32)
        else
          some (8 : Int32)
  else
    some (2 : Int32)
set_option maxRecDepth 20000 in
set_option maxHeartbeats 2000000 in
theorem c_X10_wrongHarvest (E : wEnv) {x1 : Int32} {x2 : Int32} {M : Mem} {q : Int32} (h : f_X10_wrongHarvest x1 x2 M = some q) : Mt E yX10_wrongHarvest cX10_wrongHarvest 3 (some .int) 1 [.ref (ad E 0 0), .int x1, .int x2] M (some (.int q)) M := by
  unfold f_X10_wrongHarvest at h
  refine mt_intro (own := RX10) (lv0 := [(0, .ref (ad E 0 0)), (1, .int x1), (2, .int x2)]) (by decide) rfl rfl rfl (fun Y C R => ?_)
  refine g_aload_n C dX10_wrongHarvest_0 rfl rfl ?_
  refine g_iconst (v := (3 : Int32)) C dX10_wrongHarvest_1 (by decide) ?_
  refine g_iload_n C dX10_wrongHarvest_2 rfl rfl ?_
  obtain ⟨r1, hr1, h⟩ := Option.bind_eq_some_iff.mp h
  refine call_X10_237 C dX10_wrongHarvest_3 (by decide) (c_X10_isNo E hr1) (by decide) rfl ?_
  refine g_if_eq (tgt := 11) C dX10_wrongHarvest_6 (by decide) h (fun h => ?_) (fun h => ?_)
  · refine g_iload_n C dX10_wrongHarvest_11 rfl rfl ?_
    refine g_iconst (v := (1 : Int32)) C dX10_wrongHarvest_12 (by decide) ?_
    refine g_icmp_lt (tgt := 22) C dX10_wrongHarvest_13 (by decide) h (fun h => ?_) (fun h => ?_)
    · refine g_iconst (v := (5 : Int32)) C dX10_wrongHarvest_22 (by decide) ?_
      exact g_iret C R dX10_wrongHarvest_23 (Option.some.inj h) rfl
    · refine g_iload_n C dX10_wrongHarvest_16 rfl rfl ?_
      refine g_bipush (v := (20 : Int32)) C dX10_wrongHarvest_17 (by decide) ?_
      refine g_icmp_le (tgt := 24) C dX10_wrongHarvest_19 (by decide) h (fun h => ?_) (fun h => ?_)
      · refine g_aload_n C dX10_wrongHarvest_24 rfl rfl ?_
        obtain ⟨r2, hr2, h⟩ := Option.bind_eq_some_iff.mp h
        refine call_X10_222 C dX10_wrongHarvest_25 (by decide) (c_X10_hasNoWeather E hr2) (by decide) rfl ?_
        refine g_if_eq (tgt := 36) C dX10_wrongHarvest_28 (by decide) h (fun h => ?_) (fun h => ?_)
        · refine g_iconst (v := (0 : Int32)) C dX10_wrongHarvest_36 (by decide) ?_
          exact g_iret C R dX10_wrongHarvest_37 (Option.some.inj h) rfl
        · refine g_bipush (v := (8 : Int32)) C dX10_wrongHarvest_31 (by decide) ?_
          refine g_goto (tgt := 37) C dX10_wrongHarvest_33 (by decide) ?_
          exact g_iret C R dX10_wrongHarvest_37 (Option.some.inj h) rfl
      · refine g_iconst (v := (5 : Int32)) C dX10_wrongHarvest_22 (by decide) ?_
        exact g_iret C R dX10_wrongHarvest_23 (Option.some.inj h) rfl
  · refine g_iconst (v := (2 : Int32)) C dX10_wrongHarvest_9 (by decide) ?_
    exact g_iret C R dX10_wrongHarvest_10 (Option.some.inj h) rfl
noncomputable def f_X10_harvest (x1 : Int32) (x2 : Int32) (M : Mem) : Option (Int32 × Mem) :=
  (f_X10_wrongHarvest x1 x2 M).bind fun r1 =>
  if r1 = 0 then
    (f_X0_reap 0 x1 x2 M).bind fun M2 =>
    if inb (M2.1 20 0 6) 6 = true then
     (f_X10_answer (M2.1 43 0 ((M2.1 20 0 6).toNatClampNeg)) M2).bind fun q4 =>
     some (q4.1, q4.2)
    else none
  else
    (f_X10_none r1 M).bind fun q5 =>
    some (q5.1, q5.2)
set_option maxRecDepth 20000 in
set_option maxHeartbeats 2000000 in
theorem c_X10_harvest (E : wEnv) {x1 : Int32} {x2 : Int32} {M : Mem} {q : (Int32 × Mem)} (h : f_X10_harvest x1 x2 M = some q) : Mt E yX10_harvest cX10_harvest 4 (some .int) 2 [.ref (ad E 0 0), .int x1, .int x2] M (some (.int q.1)) q.2 := by
  unfold f_X10_harvest at h
  refine mt_intro (own := RX10) (lv0 := [(0, .ref (ad E 0 0)), (1, .int x1), (2, .int x2)]) (by decide) rfl rfl rfl (fun Y C R => ?_)
  refine g_aload_n C dX10_harvest_0 rfl rfl ?_
  refine g_iload_n C dX10_harvest_1 rfl rfl ?_
  refine g_iload_n C dX10_harvest_2 rfl rfl ?_
  obtain ⟨r1, hr1, h⟩ := Option.bind_eq_some_iff.mp h
  refine call_X10_396 C dX10_harvest_3 (by decide) (c_X10_wrongHarvest E hr1) (by decide) rfl ?_
  refine g_istore_n C dX10_harvest_6 rfl rfl ?_
  refine g_iload_n C dX10_harvest_7 rfl rfl ?_
  refine g_if_eq (tgt := 17) C dX10_harvest_8 (by decide) h (fun h => ?_) (fun h => ?_)
  · refine g_aload_n C dX10_harvest_17 rfl rfl ?_
    refine get_X10_65 C dX10_harvest_18 (by decide) ?_
    refine g_aload_n C dX10_harvest_21 rfl rfl ?_
    refine get_X10_19 C dX10_harvest_22 (by decide) ?_
    refine get_X10_175 C dX10_harvest_25 (by decide) ?_
    refine g_iload_n C dX10_harvest_28 rfl rfl ?_
    refine g_iload_n C dX10_harvest_29 rfl rfl ?_
    obtain ⟨M2, hr2, h⟩ := Option.bind_eq_some_iff.mp h
    refine call_X10_399 C dX10_harvest_30 (by decide) (c_X0_reap E (by decide) hr2) (by decide) rfl ?_
    refine g_aload_n C dX10_harvest_33 rfl rfl ?_
    refine g_aload_n C dX10_harvest_34 rfl rfl ?_
    refine get_X10_65 C dX10_harvest_35 (by decide) ?_
    refine get_X10_402 C dX10_harvest_38 (by decide) ?_
    refine g_aload_n C dX10_harvest_41 rfl rfl ?_
    refine get_X10_19 C dX10_harvest_42 (by decide) ?_
    refine get_X10_182 C dX10_harvest_45 (by decide) ?_
    refine get_X10_225 C dX10_harvest_48 (by decide) ?_
    obtain ⟨hb3, h⟩ := of_ite h
    refine ld_43 (j := _) C dX10_harvest_51 (by decide) hb3 rfl ?_
    obtain ⟨q4, hr4, h⟩ := Option.bind_eq_some_iff.mp h
    refine call_X10_197 C dX10_harvest_52 (by decide) (c_X10_answer E hr4) (by decide) rfl ?_
    exact g_iret C R dX10_harvest_55 (fst_of h) (snd_of h)
  · refine g_aload_n C dX10_harvest_11 rfl rfl ?_
    refine g_iload_n C dX10_harvest_12 rfl rfl ?_
    obtain ⟨q5, hr5, h⟩ := Option.bind_eq_some_iff.mp h
    refine call_X10_133 C dX10_harvest_13 (by decide) (c_X10_none E hr5) (by decide) rfl ?_
    exact g_iret C R dX10_harvest_16 (fst_of h) (snd_of h)
noncomputable def f_X10_harvestNow (x1 : Int32) (x2 : Int32) (M : Mem) : Option (Int32 × Mem) :=
  (f_X10_wrongHarvest x1 x2 M).bind fun r1 =>
  if r1 = 0 then
    (f_X0_reap 0 x1 (x2 - (1 : Int32)) M).bind fun M2 =>
    (f_X0_bestVerdict 0 (M2.1 20 0 6) M2).bind fun r3 =>
    (f_X10_answer r3 M2).bind fun q4 =>
    some (q4.1, q4.2)
  else
    (f_X10_none r1 M).bind fun q5 =>
    some (q5.1, q5.2)
set_option maxRecDepth 20000 in
set_option maxHeartbeats 2000000 in
theorem c_X10_harvestNow (E : wEnv) {x1 : Int32} {x2 : Int32} {M : Mem} {q : (Int32 × Mem)} (h : f_X10_harvestNow x1 x2 M = some q) : Mt E yX10_harvestNow cX10_harvestNow 4 (some .int) 2 [.ref (ad E 0 0), .int x1, .int x2] M (some (.int q.1)) q.2 := by
  unfold f_X10_harvestNow at h
  refine mt_intro (own := RX10) (lv0 := [(0, .ref (ad E 0 0)), (1, .int x1), (2, .int x2)]) (by decide) rfl rfl rfl (fun Y C R => ?_)
  refine g_aload_n C dX10_harvestNow_0 rfl rfl ?_
  refine g_iload_n C dX10_harvestNow_1 rfl rfl ?_
  refine g_iload_n C dX10_harvestNow_2 rfl rfl ?_
  obtain ⟨r1, hr1, h⟩ := Option.bind_eq_some_iff.mp h
  refine call_X10_396 C dX10_harvestNow_3 (by decide) (c_X10_wrongHarvest E hr1) (by decide) rfl ?_
  refine g_istore_n C dX10_harvestNow_6 rfl rfl ?_
  refine g_iload_n C dX10_harvestNow_7 rfl rfl ?_
  refine g_if_eq (tgt := 17) C dX10_harvestNow_8 (by decide) h (fun h => ?_) (fun h => ?_)
  · refine g_aload_n C dX10_harvestNow_17 rfl rfl ?_
    refine get_X10_65 C dX10_harvestNow_18 (by decide) ?_
    refine g_aload_n C dX10_harvestNow_21 rfl rfl ?_
    refine get_X10_19 C dX10_harvestNow_22 (by decide) ?_
    refine get_X10_175 C dX10_harvestNow_25 (by decide) ?_
    refine g_iload_n C dX10_harvestNow_28 rfl rfl ?_
    refine g_iload_n C dX10_harvestNow_29 rfl rfl ?_
    refine g_iconst (v := (1 : Int32)) C dX10_harvestNow_30 (by decide) ?_
    refine g_isub C dX10_harvestNow_31 ?_
    obtain ⟨M2, hr2, h⟩ := Option.bind_eq_some_iff.mp h
    refine call_X10_399 C dX10_harvestNow_32 (by decide) (c_X0_reap E (by decide) hr2) (by decide) rfl ?_
    refine g_aload_n C dX10_harvestNow_35 rfl rfl ?_
    refine g_aload_n C dX10_harvestNow_36 rfl rfl ?_
    refine get_X10_65 C dX10_harvestNow_37 (by decide) ?_
    refine g_aload_n C dX10_harvestNow_40 rfl rfl ?_
    refine get_X10_19 C dX10_harvestNow_41 (by decide) ?_
    refine get_X10_175 C dX10_harvestNow_44 (by decide) ?_
    refine g_aload_n C dX10_harvestNow_47 rfl rfl ?_
    refine get_X10_19 C dX10_harvestNow_48 (by decide) ?_
    refine get_X10_182 C dX10_harvestNow_51 (by decide) ?_
    refine get_X10_225 C dX10_harvestNow_54 (by decide) ?_
    obtain ⟨r3, hr3, h⟩ := Option.bind_eq_some_iff.mp h
    refine call_X10_405 C dX10_harvestNow_57 (by decide) (c_X0_bestVerdict E (by decide) hr3) (by decide) rfl ?_
    obtain ⟨q4, hr4, h⟩ := Option.bind_eq_some_iff.mp h
    refine call_X10_197 C dX10_harvestNow_60 (by decide) (c_X10_answer E hr4) (by decide) rfl ?_
    exact g_iret C R dX10_harvestNow_63 (fst_of h) (snd_of h)
  · refine g_aload_n C dX10_harvestNow_11 rfl rfl ?_
    refine g_iload_n C dX10_harvestNow_12 rfl rfl ?_
    obtain ⟨q5, hr5, h⟩ := Option.bind_eq_some_iff.mp h
    refine call_X10_133 C dX10_harvestNow_13 (by decide) (c_X10_none E hr5) (by decide) rfl ?_
    exact g_iret C R dX10_harvestNow_16 (fst_of h) (snd_of h)
noncomputable def f_X10_reach_28 (M : Mem) : Nat → Int32 → Int32 → Option (Int32 × Mem)
  | 0, _, _ => none
  | n + 1, x1, x2 =>
  if x2 < (6 : Int32) then
    (f_X1_dayMore 0 x1 M).bind fun r4 =>
    f_X10_reach_28 M n r4 (x2 + (1 : Int32))
  else
    (f_X10_answer x1 M).bind fun q3 =>
    some (q3.1, q3.2)
noncomputable def f_X10_reach (M : Mem) : Option (Int32 × Mem) :=
  (f_X10_hasNoWeather M).bind fun r1 =>
  if r1 = 0 then
    let x1_2 := ((1 : Int32) <<< ((M.1 20 0 6) &&& 31))
    f_X10_reach_28 M FU x1_2 (0 : Int32)
  else
    (f_X10_answer (0 : Int32) M).bind fun q5 =>
    some (q5.1, q5.2)
set_option maxRecDepth 20000 in
set_option maxHeartbeats 2000000 in
theorem b_X10_reach_28 {E : wEnv} {Y : YT} (C : Cx E Y cX10_reach 3 RX10 1) {q : (Int32 × Mem)} {M : Mem} (R : Rx E Y (some .int) (some (.int q.1)) q.2) (n : Nat) : ∀ {x1 : Int32} {x2 : Int32} (_ : f_X10_reach_28 M n x1 x2 = some q), G E Y 3 M 28 [(0, .ref (ad E 0 0)), (1, .int x1), (2, .int x2)] [] := by
  induction n with
  | zero =>
    intro x1 x2 h
    cases (show none = some q from h)
  | succ n ih =>
    intro x1 x2 h
    rw [f_X10_reach_28] at h
    refine g_iload_n C dX10_reach_28 rfl rfl ?_
    refine g_bipush (v := (6 : Int32)) C dX10_reach_29 (by decide) ?_
    refine g_icmp_ge (tgt := 52) C dX10_reach_31 (by decide) h (fun h => ?_) (fun h => ?_)
    · refine g_aload_n C dX10_reach_52 rfl rfl ?_
      refine g_iload_n C dX10_reach_53 rfl rfl ?_
      obtain ⟨q3, hr3, h⟩ := Option.bind_eq_some_iff.mp h
      refine call_X10_197 C dX10_reach_54 (by decide) (c_X10_answer E hr3) (by decide) rfl ?_
      exact g_iret C R dX10_reach_57 (fst_of h) (snd_of h)
    · refine g_aload_n C dX10_reach_34 rfl rfl ?_
      refine get_X10_19 C dX10_reach_35 (by decide) ?_
      refine get_X10_175 C dX10_reach_38 (by decide) ?_
      refine g_iload_n C dX10_reach_41 rfl rfl ?_
      obtain ⟨r4, hr4, h⟩ := Option.bind_eq_some_iff.mp h
      refine call_X10_393 C dX10_reach_42 (by decide) (c_X1_dayMore E (by decide) hr4) (by decide) rfl ?_
      refine g_istore_n C dX10_reach_45 rfl rfl ?_
      refine g_iinc (w := (1 : Int32)) C dX10_reach_46 rfl (by decide) rfl ?_
      refine g_goto (tgt := 28) C dX10_reach_49 (by decide) ?_
      exact g_sub (ih h) ⟨rfl, rfl, rfl, trivial⟩
set_option maxRecDepth 20000 in
set_option maxHeartbeats 2000000 in
theorem c_X10_reach (E : wEnv) {M : Mem} {q : (Int32 × Mem)} (h : f_X10_reach M = some q) : Mt E yX10_reach cX10_reach 3 (some .int) 1 [.ref (ad E 0 0)] M (some (.int q.1)) q.2 := by
  unfold f_X10_reach at h
  refine mt_intro (own := RX10) (lv0 := [(0, .ref (ad E 0 0))]) (by decide) rfl rfl rfl (fun Y C R => ?_)
  refine g_aload_n C dX10_reach_0 rfl rfl ?_
  obtain ⟨r1, hr1, h⟩ := Option.bind_eq_some_iff.mp h
  refine call_X10_222 C dX10_reach_1 (by decide) (c_X10_hasNoWeather E hr1) (by decide) rfl ?_
  refine g_if_eq (tgt := 13) C dX10_reach_4 (by decide) h (fun h => ?_) (fun h => ?_)
  · refine g_iconst (v := (1 : Int32)) C dX10_reach_13 (by decide) ?_
    refine g_aload_n C dX10_reach_14 rfl rfl ?_
    refine get_X10_19 C dX10_reach_15 (by decide) ?_
    refine get_X10_182 C dX10_reach_18 (by decide) ?_
    refine get_X10_225 C dX10_reach_21 (by decide) ?_
    refine g_ishl C dX10_reach_24 ?_
    refine g_istore_n C dX10_reach_25 rfl rfl ?_
    refine g_iconst (v := (0 : Int32)) C dX10_reach_26 (by decide) ?_
    refine g_istore_n C dX10_reach_27 rfl rfl ?_
    exact g_sub (b_X10_reach_28 C R _ h) ⟨rfl, rfl, rfl, trivial⟩
  · refine g_aload_n C dX10_reach_7 rfl rfl ?_
    refine g_iconst (v := (0 : Int32)) C dX10_reach_8 (by decide) ?_
    obtain ⟨q5, hr5, h⟩ := Option.bind_eq_some_iff.mp h
    refine call_X10_197 C dX10_reach_9 (by decide) (c_X10_answer E hr5) (by decide) rfl ?_
    exact g_iret C R dX10_reach_12 (fst_of h) (snd_of h)
noncomputable def f_X10_isNoSeed (x0 : Int32) : Option Int32 :=
  if x0 < 0 then
    some (1 : Int32)
  else
    if (9999 : Int32) < x0 then
      some (1 : Int32)
    else
      some (0 : Int32)
set_option maxRecDepth 20000 in
set_option maxHeartbeats 2000000 in
theorem c_X10_isNoSeed (E : wEnv) {x0 : Int32} {M : Mem} {q : Int32} (h : f_X10_isNoSeed x0 = some q) : Mt E yX10_isNoSeed cX10_isNoSeed 1 (some .boolean) 0 [.int x0] M (some (.int q)) M := by
  unfold f_X10_isNoSeed at h
  refine mt_intro (own := RX10) (lv0 := [(0, .int x0)]) (by decide) rfl rfl rfl (fun Y C R => ?_)
  refine g_iload_n C dX10_isNoSeed_0 rfl rfl ?_
  refine g_if_lt (tgt := 11) C dX10_isNoSeed_1 (by decide) h (fun h => ?_) (fun h => ?_)
  · refine g_iconst (v := (1 : Int32)) C dX10_isNoSeed_11 (by decide) ?_
    refine g_goto (tgt := 16) C dX10_isNoSeed_12 (by decide) ?_
    exact g_zret C R dX10_isNoSeed_16 (Option.some.inj h) (Or.inr rfl) rfl
  · refine g_iload_n C dX10_isNoSeed_4 rfl rfl ?_
    refine g_sipush (v := (9999 : Int32)) C dX10_isNoSeed_5 (by decide) ?_
    refine g_icmp_le (tgt := 15) C dX10_isNoSeed_8 (by decide) h (fun h => ?_) (fun h => ?_)
    · refine g_iconst (v := (0 : Int32)) C dX10_isNoSeed_15 (by decide) ?_
      exact g_zret C R dX10_isNoSeed_16 (Option.some.inj h) (Or.inl rfl) rfl
    · refine g_iconst (v := (1 : Int32)) C dX10_isNoSeed_11 (by decide) ?_
      refine g_goto (tgt := 16) C dX10_isNoSeed_12 (by decide) ?_
      exact g_zret C R dX10_isNoSeed_16 (Option.some.inj h) (Or.inr rfl) rfl
noncomputable def f_X10_live (x1 : Int32) (M : Mem) : Option (Int32 × Mem) :=
  (f_X10_isNoSeed x1).bind fun r1 =>
  if r1 = 0 then
    if (M.1 23 0 8) = 0 then
      (f_X10_none (8 : Int32) M).bind fun q5 =>
      some (q5.1, q5.2)
    else
      (f_X4_run 0 0 0 x1 M).bind fun M2 =>
      let M3 := sR M2 0 0 (upd (M2.1 0 0) 12 (1 : Int32))
      (f_X10_answer (M3.1 44 0 2) M3).bind fun q4 =>
      some (q4.1, q4.2)
  else
    (f_X10_none (5 : Int32) M).bind fun q6 =>
    some (q6.1, q6.2)
set_option maxRecDepth 20000 in
set_option maxHeartbeats 2000000 in
theorem c_X10_live (E : wEnv) {x1 : Int32} {M : Mem} {q : (Int32 × Mem)} (h : f_X10_live x1 M = some q) : Mt E yX10_live cX10_live 2 (some .int) 7 [.ref (ad E 0 0), .int x1] M (some (.int q.1)) q.2 := by
  unfold f_X10_live at h
  refine mt_intro (own := RX10) (lv0 := [(0, .ref (ad E 0 0)), (1, .int x1)]) (by decide) rfl rfl rfl (fun Y C R => ?_)
  refine g_iload_n C dX10_live_0 rfl rfl ?_
  obtain ⟨r1, hr1, h⟩ := Option.bind_eq_some_iff.mp h
  refine call_X10_408 C dX10_live_1 (c_X10_isNoSeed E hr1) (by decide) rfl ?_
  refine g_if_eq (tgt := 13) C dX10_live_4 (by decide) h (fun h => ?_) (fun h => ?_)
  · refine g_aload_n C dX10_live_13 rfl rfl ?_
    refine get_X10_19 C dX10_live_14 (by decide) ?_
    refine get_X10_188 C dX10_live_17 (by decide) ?_
    refine get_X10_411 C dX10_live_20 (by decide) ?_
    refine g_if_ne (tgt := 33) C dX10_live_23 (by decide) h (fun h => ?_) (fun h => ?_)
    · refine g_aload_n C dX10_live_33 rfl rfl ?_
      refine get_X10_79 C dX10_live_34 (by decide) ?_
      refine g_aload_n C dX10_live_37 rfl rfl ?_
      refine get_X10_19 C dX10_live_38 (by decide) ?_
      refine g_aload_n C dX10_live_41 rfl rfl ?_
      refine get_X10_19 C dX10_live_42 (by decide) ?_
      refine get_X10_182 C dX10_live_45 (by decide) ?_
      refine g_iload_n C dX10_live_48 rfl rfl ?_
      obtain ⟨M2, hr2, h⟩ := Option.bind_eq_some_iff.mp h
      refine call_X10_414 C dX10_live_49 (by decide) (c_X4_run E (by decide) (by decide) (by decide) hr2) (by decide) rfl ?_
      refine g_aload_n C dX10_live_52 rfl rfl ?_
      refine g_iconst (v := (1 : Int32)) C dX10_live_53 (by decide) ?_
      refine put_X10_86 C dX10_live_54 (by decide) (Or.inr rfl) ?_
      refine g_aload_n C dX10_live_57 rfl rfl ?_
      refine g_aload_n C dX10_live_58 rfl rfl ?_
      refine get_X10_79 C dX10_live_59 (by decide) ?_
      refine get_X10_418 C dX10_live_62 (by decide) ?_
      obtain ⟨q4, hr4, h⟩ := Option.bind_eq_some_iff.mp h
      refine call_X10_197 C dX10_live_65 (by decide) (c_X10_answer E hr4) (by decide) rfl ?_
      exact g_iret C R dX10_live_68 (fst_of h) (snd_of h)
    · refine g_aload_n C dX10_live_26 rfl rfl ?_
      refine g_bipush (v := (8 : Int32)) C dX10_live_27 (by decide) ?_
      obtain ⟨q5, hr5, h⟩ := Option.bind_eq_some_iff.mp h
      refine call_X10_133 C dX10_live_29 (by decide) (c_X10_none E hr5) (by decide) rfl ?_
      exact g_iret C R dX10_live_32 (fst_of h) (snd_of h)
  · refine g_aload_n C dX10_live_7 rfl rfl ?_
    refine g_iconst (v := (5 : Int32)) C dX10_live_8 (by decide) ?_
    obtain ⟨q6, hr6, h⟩ := Option.bind_eq_some_iff.mp h
    refine call_X10_133 C dX10_live_9 (by decide) (c_X10_none E hr6) (by decide) rfl ?_
    exact g_iret C R dX10_live_12 (fst_of h) (snd_of h)
