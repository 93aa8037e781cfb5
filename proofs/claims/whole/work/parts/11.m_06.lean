noncomputable def f_X11_sways (x1 : Int32) (x2 : Int32) (M : Mem) : Option (Int32 × Mem) :=
  let M1 := sR M 50 0 (upd (M.1 50 0) 1 (0 : Int32))
  let M2 := sR M1 50 0 (upd (M1.1 50 0) 0 (0 : Int32))
  (f_X11_isJurorAt x1 M2).bind fun r3 =>
  if r3 = 0 then
    (f_X11_refuse (2 : Int32) M2).bind fun q4 =>
    some (q4.1, q4.2)
  else
    (f_X11_isJurorAt x2 M2).bind fun r5 =>
    if r5 = 0 then
      (f_X11_refuse (2 : Int32) M2).bind fun q8 =>
      some (q8.1, q8.2)
    else
      if x1 = x2 then
        (f_X11_refuse (5 : Int32) M2).bind fun q7 =>
        some (q7.1, q7.2)
      else
        if inb (((52 : Int32) + ((10 : Int32) * x1)) + x2) 2375 = true then
         some ((M2.1 55 0 ((((52 : Int32) + ((10 : Int32) * x1)) + x2).toNatClampNeg)), M2)
        else none
set_option maxRecDepth 20000 in
set_option maxHeartbeats 2000000 in
theorem c_X11_sways (E : wEnv) {x1 : Int32} {x2 : Int32} {M : Mem} {q : (Int32 × Mem)} (h : f_X11_sways x1 x2 M = some q) : Mt E yX11_sways cX11_sways 3 (some .int) 2 [.ref (ad E 50 0), .int x1, .int x2] M (some (.int q.1)) q.2 := by
  unfold f_X11_sways at h
  refine mt_intro (own := RX11) (lv0 := [(0, .ref (ad E 50 0)), (1, .int x1), (2, .int x2)]) (by decide) rfl rfl rfl (fun Y C R => ?_)
  refine g_aload_n C dX11_sways_0 rfl rfl ?_
  refine g_iconst (v := (0 : Int32)) C dX11_sways_1 (by decide) ?_
  refine put_X11_71 C dX11_sways_2 (by decide) ?_
  refine g_aload_n C dX11_sways_5 rfl rfl ?_
  refine g_iconst (v := (0 : Int32)) C dX11_sways_6 (by decide) ?_
  refine put_X11_74 C dX11_sways_7 (by decide) ?_
  refine g_aload_n C dX11_sways_10 rfl rfl ?_
  refine g_iload_n C dX11_sways_11 rfl rfl ?_
  obtain ⟨r3, hr3, h⟩ := Option.bind_eq_some_iff.mp h
  refine call_X11_343 C dX11_sways_12 (by decide) (c_X11_isJurorAt E hr3) (by decide) rfl ?_
  refine g_if_eq (tgt := 26) C dX11_sways_15 (by decide) h (fun h => ?_) (fun h => ?_)
  · refine g_aload_n C dX11_sways_26 rfl rfl ?_
    refine g_iconst (v := (2 : Int32)) C dX11_sways_27 (by decide) ?_
    obtain ⟨q4, hr4, h⟩ := Option.bind_eq_some_iff.mp h
    refine call_X11_340 C dX11_sways_28 (by decide) (c_X11_refuse E hr4) (by decide) rfl ?_
    exact g_iret C R dX11_sways_31 (fst_of h) (snd_of h)
  · refine g_aload_n C dX11_sways_18 rfl rfl ?_
    refine g_iload_n C dX11_sways_19 rfl rfl ?_
    obtain ⟨r5, hr5, h⟩ := Option.bind_eq_some_iff.mp h
    refine call_X11_343 C dX11_sways_20 (by decide) (c_X11_isJurorAt E hr5) (by decide) rfl ?_
    refine g_if_ne (tgt := 32) C dX11_sways_23 (by decide) h (fun h => ?_) (fun h => ?_)
    · refine g_iload_n C dX11_sways_32 rfl rfl ?_
      refine g_iload_n C dX11_sways_33 rfl rfl ?_
      refine g_icmp_ne (tgt := 45) C dX11_sways_34 (by decide) h (fun h => ?_) (fun h => ?_)
      · refine g_aload_n C dX11_sways_45 rfl rfl ?_
        refine get_X11_35 C dX11_sways_46 (by decide) ?_
        refine g_bipush (v := (52 : Int32)) C dX11_sways_49 (by decide) ?_
        refine g_bipush (v := (10 : Int32)) C dX11_sways_51 (by decide) ?_
        refine g_iload_n C dX11_sways_53 rfl rfl ?_
        refine g_imul C dX11_sways_54 ?_
        refine g_iadd C dX11_sways_55 ?_
        refine g_iload_n C dX11_sways_56 rfl rfl ?_
        refine g_iadd C dX11_sways_57 ?_
        obtain ⟨hb6, h⟩ := of_ite h
        refine ld_55 (j := _) C dX11_sways_58 (by decide) hb6 rfl ?_
        exact g_iret C R dX11_sways_59 (fst_of h) (snd_of h)
      · refine g_aload_n C dX11_sways_37 rfl rfl ?_
        refine g_iconst (v := (5 : Int32)) C dX11_sways_38 (by decide) ?_
        obtain ⟨q7, hr7, h⟩ := Option.bind_eq_some_iff.mp h
        refine call_X11_340 C dX11_sways_39 (by decide) (c_X11_refuse E hr7) (by decide) rfl ?_
        refine g_goto (tgt := 59) C dX11_sways_42 (by decide) ?_
        exact g_iret C R dX11_sways_59 (fst_of h) (snd_of h)
    · refine g_aload_n C dX11_sways_26 rfl rfl ?_
      refine g_iconst (v := (2 : Int32)) C dX11_sways_27 (by decide) ?_
      obtain ⟨q8, hr8, h⟩ := Option.bind_eq_some_iff.mp h
      refine call_X11_340 C dX11_sways_28 (by decide) (c_X11_refuse E hr8) (by decide) rfl ?_
      exact g_iret C R dX11_sways_31 (fst_of h) (snd_of h)
noncomputable def f_X11_proof (x1 : Int32) (M : Mem) : Option (Int32 × Mem) :=
  let M1 := sR M 50 0 (upd (M.1 50 0) 1 (0 : Int32))
  let M2 := sR M1 50 0 (upd (M1.1 50 0) 0 (0 : Int32))
  (f_X11_isIn x1.toInt64 (0 : Int64) (((M2.1 55 0 1) - (1 : Int32)).toInt64)).bind fun r3 =>
  if r3 = 0 then
    (f_X11_refuse (2 : Int32) M2).bind fun q4 =>
    some (q4.1, q4.2)
  else
    if inb ((152 : Int32) + x1) 2375 = true then
     some ((M2.1 55 0 (((152 : Int32) + x1).toNatClampNeg)), M2)
    else none
set_option maxRecDepth 20000 in
set_option maxHeartbeats 2000000 in
theorem c_X11_proof (E : wEnv) {x1 : Int32} {M : Mem} {q : (Int32 × Mem)} (h : f_X11_proof x1 M = some q) : Mt E yX11_proof cX11_proof 2 (some .int) 1 [.ref (ad E 50 0), .int x1] M (some (.int q.1)) q.2 := by
  unfold f_X11_proof at h
  refine mt_intro (own := RX11) (lv0 := [(0, .ref (ad E 50 0)), (1, .int x1)]) (by decide) rfl rfl rfl (fun Y C R => ?_)
  refine g_aload_n C dX11_proof_0 rfl rfl ?_
  refine g_iconst (v := (0 : Int32)) C dX11_proof_1 (by decide) ?_
  refine put_X11_71 C dX11_proof_2 (by decide) ?_
  refine g_aload_n C dX11_proof_5 rfl rfl ?_
  refine g_iconst (v := (0 : Int32)) C dX11_proof_6 (by decide) ?_
  refine put_X11_74 C dX11_proof_7 (by decide) ?_
  refine g_iload_n C dX11_proof_10 rfl rfl ?_
  refine g_i2l C dX11_proof_11 ?_
  refine g_lconst (v := (0 : Int64)) C dX11_proof_12 (by decide) ?_
  refine g_aload_n C dX11_proof_13 rfl rfl ?_
  refine get_X11_35 C dX11_proof_14 (by decide) ?_
  refine g_iconst (v := (1 : Int32)) C dX11_proof_17 (by decide) ?_
  refine ld_55 (j := 1) C dX11_proof_18 (by decide) (by decide) rfl ?_
  refine g_iconst (v := (1 : Int32)) C dX11_proof_19 (by decide) ?_
  refine g_isub C dX11_proof_20 ?_
  refine g_i2l C dX11_proof_21 ?_
  obtain ⟨r3, hr3, h⟩ := Option.bind_eq_some_iff.mp h
  refine call_X11_106 C dX11_proof_22 (c_X11_isIn E hr3) (by decide) rfl ?_
  refine g_if_eq (tgt := 41) C dX11_proof_25 (by decide) h (fun h => ?_) (fun h => ?_)
  · refine g_aload_n C dX11_proof_41 rfl rfl ?_
    refine g_iconst (v := (2 : Int32)) C dX11_proof_42 (by decide) ?_
    obtain ⟨q4, hr4, h⟩ := Option.bind_eq_some_iff.mp h
    refine call_X11_340 C dX11_proof_43 (by decide) (c_X11_refuse E hr4) (by decide) rfl ?_
    exact g_iret C R dX11_proof_46 (fst_of h) (snd_of h)
  · refine g_aload_n C dX11_proof_28 rfl rfl ?_
    refine get_X11_35 C dX11_proof_29 (by decide) ?_
    refine g_sipush (v := (152 : Int32)) C dX11_proof_32 (by decide) ?_
    refine g_iload_n C dX11_proof_35 rfl rfl ?_
    refine g_iadd C dX11_proof_36 ?_
    obtain ⟨hb5, h⟩ := of_ite h
    refine ld_55 (j := _) C dX11_proof_37 (by decide) hb5 rfl ?_
    refine g_goto (tgt := 46) C dX11_proof_38 (by decide) ?_
    exact g_iret C R dX11_proof_46 (fst_of h) (snd_of h)
noncomputable def f_X11_behindOf (x1 : Int32) (x2 : Int32) (M : Mem) : Option Int32 :=
  if x2 = 0 then
    some x1
  else
    if 0 < x2 then
      if inb ((158 : Int32) + x1) 2375 = true then
       some (M.1 55 0 (((158 : Int32) + x1).toNatClampNeg))
      else none
    else
      if inb ((164 : Int32) + x1) 2375 = true then
       some (M.1 55 0 (((164 : Int32) + x1).toNatClampNeg))
      else none
set_option maxRecDepth 20000 in
set_option maxHeartbeats 2000000 in
theorem c_X11_behindOf (E : wEnv) {x1 : Int32} {x2 : Int32} {M : Mem} {q : Int32} (h : f_X11_behindOf x1 x2 M = some q) : Mt E yX11_behindOf cX11_behindOf 3 (some .int) 0 [.ref (ad E 50 0), .int x1, .int x2] M (some (.int q)) M := by
  unfold f_X11_behindOf at h
  refine mt_intro (own := RX11) (lv0 := [(0, .ref (ad E 50 0)), (1, .int x1), (2, .int x2)]) (by decide) rfl rfl rfl (fun Y C R => ?_)
  refine g_iload_n C dX11_behindOf_0 rfl rfl ?_
  refine g_if_ne (tgt := 8) C dX11_behindOf_1 (by decide) h (fun h => ?_) (fun h => ?_)
  · refine g_aload_n C dX11_behindOf_8 rfl rfl ?_
    refine get_X11_35 C dX11_behindOf_9 (by decide) ?_
    refine g_iload_n C dX11_behindOf_12 rfl rfl ?_
    refine g_if_le (tgt := 22) C dX11_behindOf_13 (by decide) h (fun h => ?_) (fun h => ?_)
    · refine g_sipush (v := (164 : Int32)) C dX11_behindOf_22 (by decide) ?_
      refine g_iload_n C dX11_behindOf_25 rfl rfl ?_
      refine g_iadd C dX11_behindOf_26 ?_
      obtain ⟨hb1, h⟩ := of_ite h
      refine ld_55 (j := _) C dX11_behindOf_27 (by decide) hb1 rfl ?_
      exact g_iret C R dX11_behindOf_28 (Option.some.inj h) rfl
    · refine g_sipush (v := (158 : Int32)) C dX11_behindOf_16 (by decide) ?_
      refine g_goto (tgt := 25) C dX11_behindOf_19 (by decide) ?_
      refine g_iload_n C dX11_behindOf_25 rfl rfl ?_
      refine g_iadd C dX11_behindOf_26 ?_
      obtain ⟨hb2, h⟩ := of_ite h
      refine ld_55 (j := _) C dX11_behindOf_27 (by decide) hb2 rfl ?_
      exact g_iret C R dX11_behindOf_28 (Option.some.inj h) rfl
  · refine g_iload_n C dX11_behindOf_4 rfl rfl ?_
    refine g_goto (tgt := 28) C dX11_behindOf_5 (by decide) ?_
    exact g_iret C R dX11_behindOf_28 (Option.some.inj h) rfl
noncomputable def f_X11_follows (x1 : Int32) (x2 : Int32) (M : Mem) : Option (Int32 × Mem) :=
  let M1 := sR M 50 0 (upd (M.1 50 0) 1 (0 : Int32))
  let M2 := sR M1 50 0 (upd (M1.1 50 0) 0 (0 : Int32))
  (f_X11_isWeatherAt x1 M2).bind fun r3 =>
  if r3 = 0 then
    (f_X11_refuse (2 : Int32) M2).bind fun q7 =>
    some (q7.1, q7.2)
  else
    (f_X11_isIn x2.toInt64 (-1 : Int64) (1 : Int64)).bind fun r4 =>
    if r4 = 0 then
      (f_X11_refuse (5 : Int32) M2).bind fun q5 =>
      some (q5.1, q5.2)
    else
      (f_X11_behindOf x1 x2 M2).bind fun r6 =>
      some (r6, M2)
set_option maxRecDepth 20000 in
set_option maxHeartbeats 2000000 in
theorem c_X11_follows (E : wEnv) {x1 : Int32} {x2 : Int32} {M : Mem} {q : (Int32 × Mem)} (h : f_X11_follows x1 x2 M = some q) : Mt E yX11_follows cX11_follows 3 (some .int) 2 [.ref (ad E 50 0), .int x1, .int x2] M (some (.int q.1)) q.2 := by
  unfold f_X11_follows at h
  refine mt_intro (own := RX11) (lv0 := [(0, .ref (ad E 50 0)), (1, .int x1), (2, .int x2)]) (by decide) rfl rfl rfl (fun Y C R => ?_)
  refine g_aload_n C dX11_follows_0 rfl rfl ?_
  refine g_iconst (v := (0 : Int32)) C dX11_follows_1 (by decide) ?_
  refine put_X11_71 C dX11_follows_2 (by decide) ?_
  refine g_aload_n C dX11_follows_5 rfl rfl ?_
  refine g_iconst (v := (0 : Int32)) C dX11_follows_6 (by decide) ?_
  refine put_X11_74 C dX11_follows_7 (by decide) ?_
  refine g_aload_n C dX11_follows_10 rfl rfl ?_
  refine g_iload_n C dX11_follows_11 rfl rfl ?_
  obtain ⟨r3, hr3, h⟩ := Option.bind_eq_some_iff.mp h
  refine call_X11_346 C dX11_follows_12 (by decide) (c_X11_isWeatherAt E hr3) (by decide) rfl ?_
  refine g_if_ne (tgt := 24) C dX11_follows_15 (by decide) h (fun h => ?_) (fun h => ?_)
  · refine g_iload_n C dX11_follows_24 rfl rfl ?_
    refine g_i2l C dX11_follows_25 ?_
    refine g_ldc2 C dX11_follows_26 qc_X11_102 ?_
    refine g_lconst (v := (1 : Int64)) C dX11_follows_29 (by decide) ?_
    obtain ⟨r4, hr4, h⟩ := Option.bind_eq_some_iff.mp h
    refine call_X11_106 C dX11_follows_30 (c_X11_isIn E hr4) (by decide) rfl ?_
    refine g_if_eq (tgt := 45) C dX11_follows_33 (by decide) h (fun h => ?_) (fun h => ?_)
    · refine g_aload_n C dX11_follows_45 rfl rfl ?_
      refine g_iconst (v := (5 : Int32)) C dX11_follows_46 (by decide) ?_
      obtain ⟨q5, hr5, h⟩ := Option.bind_eq_some_iff.mp h
      refine call_X11_340 C dX11_follows_47 (by decide) (c_X11_refuse E hr5) (by decide) rfl ?_
      exact g_iret C R dX11_follows_50 (fst_of h) (snd_of h)
    · refine g_aload_n C dX11_follows_36 rfl rfl ?_
      refine g_iload_n C dX11_follows_37 rfl rfl ?_
      refine g_iload_n C dX11_follows_38 rfl rfl ?_
      obtain ⟨r6, hr6, h⟩ := Option.bind_eq_some_iff.mp h
      refine call_X11_349 C dX11_follows_39 (by decide) (c_X11_behindOf E hr6) (by decide) rfl ?_
      refine g_goto (tgt := 50) C dX11_follows_42 (by decide) ?_
      exact g_iret C R dX11_follows_50 (fst_of h) (snd_of h)
  · refine g_aload_n C dX11_follows_18 rfl rfl ?_
    refine g_iconst (v := (2 : Int32)) C dX11_follows_19 (by decide) ?_
    obtain ⟨q7, hr7, h⟩ := Option.bind_eq_some_iff.mp h
    refine call_X11_340 C dX11_follows_20 (by decide) (c_X11_refuse E hr7) (by decide) rfl ?_
    exact g_iret C R dX11_follows_23 (fst_of h) (snd_of h)
noncomputable def f_X11_growsOn (x1 : Int32) (x2 : Int32) (M : Mem) : Option Int32 :=
  if inb (((170 : Int32) + ((6 : Int32) * x1)) + x2) 2375 = true then
   some (M.1 55 0 ((((170 : Int32) + ((6 : Int32) * x1)) + x2).toNatClampNeg))
  else none
set_option maxRecDepth 20000 in
set_option maxHeartbeats 2000000 in
theorem c_X11_growsOn (E : wEnv) {x1 : Int32} {x2 : Int32} {M : Mem} {q : Int32} (h : f_X11_growsOn x1 x2 M = some q) : Mt E yX11_growsOn cX11_growsOn 3 (some .int) 0 [.ref (ad E 50 0), .int x1, .int x2] M (some (.int q)) M := by
  unfold f_X11_growsOn at h
  refine mt_intro (own := RX11) (lv0 := [(0, .ref (ad E 50 0)), (1, .int x1), (2, .int x2)]) (by decide) rfl rfl rfl (fun Y C R => ?_)
  refine g_aload_n C dX11_growsOn_0 rfl rfl ?_
  refine get_X11_35 C dX11_growsOn_1 (by decide) ?_
  refine g_sipush (v := (170 : Int32)) C dX11_growsOn_4 (by decide) ?_
  refine g_bipush (v := (6 : Int32)) C dX11_growsOn_7 (by decide) ?_
  refine g_iload_n C dX11_growsOn_9 rfl rfl ?_
  refine g_imul C dX11_growsOn_10 ?_
  refine g_iadd C dX11_growsOn_11 ?_
  refine g_iload_n C dX11_growsOn_12 rfl rfl ?_
  refine g_iadd C dX11_growsOn_13 ?_
  obtain ⟨hb1, h⟩ := of_ite h
  refine ld_55 (j := _) C dX11_growsOn_14 (by decide) hb1 rfl ?_
  exact g_iret C R dX11_growsOn_15 (Option.some.inj h) rfl
noncomputable def f_X11_grows (x1 : Int32) (x2 : Int32) (M : Mem) : Option (Int32 × Mem) :=
  let M1 := sR M 50 0 (upd (M.1 50 0) 1 (0 : Int32))
  let M2 := sR M1 50 0 (upd (M1.1 50 0) 0 (0 : Int32))
  (f_X11_isCropAt x1 M2).bind fun r3 =>
  if r3 = 0 then
    (f_X11_refuse (2 : Int32) M2).bind fun q4 =>
    some (q4.1, q4.2)
  else
    (f_X11_isWeatherAt x2 M2).bind fun r5 =>
    if r5 = 0 then
      (f_X11_refuse (2 : Int32) M2).bind fun q6 =>
      some (q6.1, q6.2)
    else
      (f_X11_growsOn x1 x2 M2).bind fun r7 =>
      some (r7, M2)
set_option maxRecDepth 20000 in
set_option maxHeartbeats 2000000 in
theorem c_X11_grows (E : wEnv) {x1 : Int32} {x2 : Int32} {M : Mem} {q : (Int32 × Mem)} (h : f_X11_grows x1 x2 M = some q) : Mt E yX11_grows cX11_grows 3 (some .int) 2 [.ref (ad E 50 0), .int x1, .int x2] M (some (.int q.1)) q.2 := by
  unfold f_X11_grows at h
  refine mt_intro (own := RX11) (lv0 := [(0, .ref (ad E 50 0)), (1, .int x1), (2, .int x2)]) (by decide) rfl rfl rfl (fun Y C R => ?_)
  refine g_aload_n C dX11_grows_0 rfl rfl ?_
  refine g_iconst (v := (0 : Int32)) C dX11_grows_1 (by decide) ?_
  refine put_X11_71 C dX11_grows_2 (by decide) ?_
  refine g_aload_n C dX11_grows_5 rfl rfl ?_
  refine g_iconst (v := (0 : Int32)) C dX11_grows_6 (by decide) ?_
  refine put_X11_74 C dX11_grows_7 (by decide) ?_
  refine g_aload_n C dX11_grows_10 rfl rfl ?_
  refine g_iload_n C dX11_grows_11 rfl rfl ?_
  obtain ⟨r3, hr3, h⟩ := Option.bind_eq_some_iff.mp h
  refine call_X11_352 C dX11_grows_12 (by decide) (c_X11_isCropAt E hr3) (by decide) rfl ?_
  refine g_if_eq (tgt := 35) C dX11_grows_15 (by decide) h (fun h => ?_) (fun h => ?_)
  · refine g_aload_n C dX11_grows_35 rfl rfl ?_
    refine g_iconst (v := (2 : Int32)) C dX11_grows_36 (by decide) ?_
    obtain ⟨q4, hr4, h⟩ := Option.bind_eq_some_iff.mp h
    refine call_X11_340 C dX11_grows_37 (by decide) (c_X11_refuse E hr4) (by decide) rfl ?_
    exact g_iret C R dX11_grows_40 (fst_of h) (snd_of h)
  · refine g_aload_n C dX11_grows_18 rfl rfl ?_
    refine g_iload_n C dX11_grows_19 rfl rfl ?_
    obtain ⟨r5, hr5, h⟩ := Option.bind_eq_some_iff.mp h
    refine call_X11_346 C dX11_grows_20 (by decide) (c_X11_isWeatherAt E hr5) (by decide) rfl ?_
    refine g_if_eq (tgt := 35) C dX11_grows_23 (by decide) h (fun h => ?_) (fun h => ?_)
    · refine g_aload_n C dX11_grows_35 rfl rfl ?_
      refine g_iconst (v := (2 : Int32)) C dX11_grows_36 (by decide) ?_
      obtain ⟨q6, hr6, h⟩ := Option.bind_eq_some_iff.mp h
      refine call_X11_340 C dX11_grows_37 (by decide) (c_X11_refuse E hr6) (by decide) rfl ?_
      exact g_iret C R dX11_grows_40 (fst_of h) (snd_of h)
    · refine g_aload_n C dX11_grows_26 rfl rfl ?_
      refine g_iload_n C dX11_grows_27 rfl rfl ?_
      refine g_iload_n C dX11_grows_28 rfl rfl ?_
      obtain ⟨r7, hr7, h⟩ := Option.bind_eq_some_iff.mp h
      refine call_X11_355 C dX11_grows_29 (by decide) (c_X11_growsOn E hr7) (by decide) rfl ?_
      refine g_goto (tgt := 40) C dX11_grows_32 (by decide) ?_
      exact g_iret C R dX11_grows_40 (fst_of h) (snd_of h)
noncomputable def f_X11_crop (x1 : Int32) (M : Mem) : Option (Int32 × Mem) :=
  let M1 := sR M 50 0 (upd (M.1 50 0) 1 (0 : Int32))
  let M2 := sR M1 50 0 (upd (M1.1 50 0) 0 (0 : Int32))
  (f_X11_isCropAt x1 M2).bind fun r3 =>
  if r3 = 0 then
    (f_X11_refuse (2 : Int32) M2).bind fun q4 =>
    some (q4.1, q4.2)
  else
    if inb ((194 : Int32) + x1) 2375 = true then
     some ((M2.1 55 0 (((194 : Int32) + x1).toNatClampNeg)), M2)
    else none
set_option maxRecDepth 20000 in
set_option maxHeartbeats 2000000 in
theorem c_X11_crop (E : wEnv) {x1 : Int32} {M : Mem} {q : (Int32 × Mem)} (h : f_X11_crop x1 M = some q) : Mt E yX11_crop cX11_crop 2 (some .int) 2 [.ref (ad E 50 0), .int x1] M (some (.int q.1)) q.2 := by
  unfold f_X11_crop at h
  refine mt_intro (own := RX11) (lv0 := [(0, .ref (ad E 50 0)), (1, .int x1)]) (by decide) rfl rfl rfl (fun Y C R => ?_)
  refine g_aload_n C dX11_crop_0 rfl rfl ?_
  refine g_iconst (v := (0 : Int32)) C dX11_crop_1 (by decide) ?_
  refine put_X11_71 C dX11_crop_2 (by decide) ?_
  refine g_aload_n C dX11_crop_5 rfl rfl ?_
  refine g_iconst (v := (0 : Int32)) C dX11_crop_6 (by decide) ?_
  refine put_X11_74 C dX11_crop_7 (by decide) ?_
  refine g_aload_n C dX11_crop_10 rfl rfl ?_
  refine g_iload_n C dX11_crop_11 rfl rfl ?_
  obtain ⟨r3, hr3, h⟩ := Option.bind_eq_some_iff.mp h
  refine call_X11_352 C dX11_crop_12 (by decide) (c_X11_isCropAt E hr3) (by decide) rfl ?_
  refine g_if_eq (tgt := 31) C dX11_crop_15 (by decide) h (fun h => ?_) (fun h => ?_)
  · refine g_aload_n C dX11_crop_31 rfl rfl ?_
    refine g_iconst (v := (2 : Int32)) C dX11_crop_32 (by decide) ?_
    obtain ⟨q4, hr4, h⟩ := Option.bind_eq_some_iff.mp h
    refine call_X11_340 C dX11_crop_33 (by decide) (c_X11_refuse E hr4) (by decide) rfl ?_
    exact g_iret C R dX11_crop_36 (fst_of h) (snd_of h)
  · refine g_aload_n C dX11_crop_18 rfl rfl ?_
    refine get_X11_35 C dX11_crop_19 (by decide) ?_
    refine g_sipush (v := (194 : Int32)) C dX11_crop_22 (by decide) ?_
    refine g_iload_n C dX11_crop_25 rfl rfl ?_
    refine g_iadd C dX11_crop_26 ?_
    obtain ⟨hb5, h⟩ := of_ite h
    refine ld_55 (j := _) C dX11_crop_27 (by decide) hb5 rfl ?_
    refine g_goto (tgt := 36) C dX11_crop_28 (by decide) ?_
    exact g_iret C R dX11_crop_36 (fst_of h) (snd_of h)
noncomputable def f_X11_copyLeanings_62 (x1 : Int32) : Nat → Int32 → Mem → Option (Int32 × Mem)
  | 0, _, _ => none
  | n + 1, x2, M =>
  if x2 < (M.1 55 0 0) then
    if inb ((42 : Int32) + x2) 2375 = true then
     if inb (((60 : Int32) * x1) + x2) 240 = true then
      let M8 := sL M 53 0 (vp_updL (M.2 53 0) ((((60 : Int32) * x1) + x2).toNatClampNeg) ((M.1 55 0 (((42 : Int32) + x2).toNatClampNeg)).toInt64))
      f_X11_copyLeanings_62 x1 n (x2 + (1 : Int32)) M8
     else none
    else none
  else
    some ((M.1 55 0 0), M)
noncomputable def f_X11_copyLeanings (x1 : Int32) (M : Mem) : Option (Int32 × Mem) :=
  let M1 := sR M 50 0 (upd (M.1 50 0) 1 (0 : Int32))
  let M2 := sR M1 50 0 (upd (M1.1 50 0) 0 (0 : Int32))
  (f_X11_isTray x1).bind fun r3 =>
  if r3 = 0 then
    (f_X11_refuse (1 : Int32) M2).bind fun q11 =>
    some (q11.1, q11.2)
  else
    if inb x1 4 = true then
     if (M2.1 52 0 x1.toNatClampNeg) < 0 then
       (f_X11_refuse (3 : Int32) M2).bind fun q10 =>
       some (q10.1, q10.2)
     else
       if inb x1 4 = true then
        if (M2.1 52 0 x1.toNatClampNeg) < (M2.1 55 0 0) then
          (f_X11_refuse (4 : Int32) M2).bind fun q9 =>
          some (q9.1, q9.2)
        else
          f_X11_copyLeanings_62 x1 FU (0 : Int32) M2
       else none
    else none
set_option maxRecDepth 20000 in
set_option maxHeartbeats 2000000 in
theorem b_X11_copyLeanings_62 {E : wEnv} {Y : YT} (C : Cx E Y cX11_copyLeanings 3 RX11 2) {q : (Int32 × Mem)} (R : Rx E Y (some .int) (some (.int q.1)) q.2) {x1 : Int32} (n : Nat) : ∀ {x2 : Int32} {M : Mem} (_ : f_X11_copyLeanings_62 x1 n x2 M = some q), G E Y 3 M 62 [(0, .ref (ad E 50 0)), (1, .int x1), (2, .int x2)] [] := by
  induction n with
  | zero =>
    intro x2 M h
    cases (show none = some q from h)
  | succ n ih =>
    intro x2 M h
    rw [f_X11_copyLeanings_62] at h
    refine g_iload_n C dX11_copyLeanings_62 rfl rfl ?_
    refine g_aload_n C dX11_copyLeanings_63 rfl rfl ?_
    refine get_X11_35 C dX11_copyLeanings_64 (by decide) ?_
    refine g_iconst (v := (0 : Int32)) C dX11_copyLeanings_67 (by decide) ?_
    refine ld_55 (j := 0) C dX11_copyLeanings_68 (by decide) (by decide) rfl ?_
    refine g_icmp_ge (tgt := 99) C dX11_copyLeanings_69 (by decide) h (fun h => ?_) (fun h => ?_)
    · refine g_aload_n C dX11_copyLeanings_99 rfl rfl ?_
      refine get_X11_35 C dX11_copyLeanings_100 (by decide) ?_
      refine g_iconst (v := (0 : Int32)) C dX11_copyLeanings_103 (by decide) ?_
      refine ld_55 (j := 0) C dX11_copyLeanings_104 (by decide) (by decide) rfl ?_
      exact g_iret C R dX11_copyLeanings_105 (fst_of h) (snd_of h)
    · refine g_aload_n C dX11_copyLeanings_72 rfl rfl ?_
      refine get_X11_20 C dX11_copyLeanings_73 (by decide) ?_
      refine g_bipush (v := (60 : Int32)) C dX11_copyLeanings_76 (by decide) ?_
      refine g_iload_n C dX11_copyLeanings_78 rfl rfl ?_
      refine g_imul C dX11_copyLeanings_79 ?_
      refine g_iload_n C dX11_copyLeanings_80 rfl rfl ?_
      refine g_iadd C dX11_copyLeanings_81 ?_
      refine g_aload_n C dX11_copyLeanings_82 rfl rfl ?_
      refine get_X11_35 C dX11_copyLeanings_83 (by decide) ?_
      refine g_bipush (v := (42 : Int32)) C dX11_copyLeanings_86 (by decide) ?_
      refine g_iload_n C dX11_copyLeanings_88 rfl rfl ?_
      refine g_iadd C dX11_copyLeanings_89 ?_
      obtain ⟨hb6, h⟩ := of_ite h
      refine ld_55 (j := _) C dX11_copyLeanings_90 (by decide) hb6 rfl ?_
      refine g_i2l C dX11_copyLeanings_91 ?_
      obtain ⟨hb7, h⟩ := of_ite h
      refine st_53 (j := _) C dX11_copyLeanings_92 (by decide) hb7 rfl ?_
      refine g_iinc (w := (1 : Int32)) C dX11_copyLeanings_93 rfl (by decide) rfl ?_
      refine g_goto (tgt := 62) C dX11_copyLeanings_96 (by decide) ?_
      exact g_sub (ih h) ⟨rfl, rfl, rfl, trivial⟩
set_option maxRecDepth 20000 in
set_option maxHeartbeats 2000000 in
theorem c_X11_copyLeanings (E : wEnv) {x1 : Int32} {M : Mem} {q : (Int32 × Mem)} (h : f_X11_copyLeanings x1 M = some q) : Mt E yX11_copyLeanings cX11_copyLeanings 3 (some .int) 2 [.ref (ad E 50 0), .int x1] M (some (.int q.1)) q.2 := by
  unfold f_X11_copyLeanings at h
  refine mt_intro (own := RX11) (lv0 := [(0, .ref (ad E 50 0)), (1, .int x1)]) (by decide) rfl rfl rfl (fun Y C R => ?_)
  refine g_aload_n C dX11_copyLeanings_0 rfl rfl ?_
  refine g_iconst (v := (0 : Int32)) C dX11_copyLeanings_1 (by decide) ?_
  refine put_X11_71 C dX11_copyLeanings_2 (by decide) ?_
  refine g_aload_n C dX11_copyLeanings_5 rfl rfl ?_
  refine g_iconst (v := (0 : Int32)) C dX11_copyLeanings_6 (by decide) ?_
  refine put_X11_74 C dX11_copyLeanings_7 (by decide) ?_
  refine g_aload_n C dX11_copyLeanings_10 rfl rfl ?_
  refine g_iload_n C dX11_copyLeanings_11 rfl rfl ?_
  obtain ⟨r3, hr3, h⟩ := Option.bind_eq_some_iff.mp h
  refine call_X11_358 C dX11_copyLeanings_12 (by decide) (c_X11_isTray E hr3) (by decide) rfl ?_
  refine g_if_ne (tgt := 24) C dX11_copyLeanings_15 (by decide) h (fun h => ?_) (fun h => ?_)
  · refine g_aload_n C dX11_copyLeanings_24 rfl rfl ?_
    refine get_X11_17 C dX11_copyLeanings_25 (by decide) ?_
    refine g_iload_n C dX11_copyLeanings_28 rfl rfl ?_
    obtain ⟨hb4, h⟩ := of_ite h
    refine ld_52 (j := _) C dX11_copyLeanings_29 (by decide) hb4 rfl ?_
    refine g_if_ge (tgt := 39) C dX11_copyLeanings_30 (by decide) h (fun h => ?_) (fun h => ?_)
    · refine g_aload_n C dX11_copyLeanings_39 rfl rfl ?_
      refine get_X11_17 C dX11_copyLeanings_40 (by decide) ?_
      refine g_iload_n C dX11_copyLeanings_43 rfl rfl ?_
      obtain ⟨hb5, h⟩ := of_ite h
      refine ld_52 (j := _) C dX11_copyLeanings_44 (by decide) hb5 rfl ?_
      refine g_aload_n C dX11_copyLeanings_45 rfl rfl ?_
      refine get_X11_35 C dX11_copyLeanings_46 (by decide) ?_
      refine g_iconst (v := (0 : Int32)) C dX11_copyLeanings_49 (by decide) ?_
      refine ld_55 (j := 0) C dX11_copyLeanings_50 (by decide) (by decide) rfl ?_
      refine g_icmp_ge (tgt := 60) C dX11_copyLeanings_51 (by decide) h (fun h => ?_) (fun h => ?_)
      · refine g_iconst (v := (0 : Int32)) C dX11_copyLeanings_60 (by decide) ?_
        refine g_istore_n C dX11_copyLeanings_61 rfl rfl ?_
        exact g_sub (b_X11_copyLeanings_62 C R _ h) ⟨rfl, rfl, rfl, trivial⟩
      · refine g_aload_n C dX11_copyLeanings_54 rfl rfl ?_
        refine g_iconst (v := (4 : Int32)) C dX11_copyLeanings_55 (by decide) ?_
        obtain ⟨q9, hr9, h⟩ := Option.bind_eq_some_iff.mp h
        refine call_X11_340 C dX11_copyLeanings_56 (by decide) (c_X11_refuse E hr9) (by decide) rfl ?_
        exact g_iret C R dX11_copyLeanings_59 (fst_of h) (snd_of h)
    · refine g_aload_n C dX11_copyLeanings_33 rfl rfl ?_
      refine g_iconst (v := (3 : Int32)) C dX11_copyLeanings_34 (by decide) ?_
      obtain ⟨q10, hr10, h⟩ := Option.bind_eq_some_iff.mp h
      refine call_X11_340 C dX11_copyLeanings_35 (by decide) (c_X11_refuse E hr10) (by decide) rfl ?_
      exact g_iret C R dX11_copyLeanings_38 (fst_of h) (snd_of h)
  · refine g_aload_n C dX11_copyLeanings_18 rfl rfl ?_
    refine g_iconst (v := (1 : Int32)) C dX11_copyLeanings_19 (by decide) ?_
    obtain ⟨q11, hr11, h⟩ := Option.bind_eq_some_iff.mp h
    refine call_X11_340 C dX11_copyLeanings_20 (by decide) (c_X11_refuse E hr11) (by decide) rfl ?_
    exact g_iret C R dX11_copyLeanings_23 (fst_of h) (snd_of h)
noncomputable def f_X11_showsOne_109 (k17 : Int32 → Int32 → Mem → Option (Int32 × Mem)) (x1 : Int32) (x2 : Int32) (x3 : Int32) (x4 : Int32) (ps1 : Int32) (ps2 : Int32) (ps3 : Int32) (M : Mem) : Option (Int32 × Mem) :=
  (f_X11_cut_ (ps2 + ps3)).bind fun r9 =>
  if inb ps1 2375 = true then
   let M11 := sR M 55 0 (upd (M.1 55 0) ps1.toNatClampNeg r9)
   if inb ((42 : Int32) + x3) 2375 = true then
    if (M11.1 55 0 (((42 : Int32) + x3).toNatClampNeg)) = x4 then
      k17 (x2 + (0 : Int32)) (x3 + (1 : Int32)) M11
    else
      k17 (x2 + (1 : Int32)) (x3 + (1 : Int32)) M11
   else none
  else none
noncomputable def f_X11_showsOne_17 (x1 : Int32) : Nat → Int32 → Int32 → Mem → Option (Int32 × Mem)
  | 0, _, _, _ => none
  | n + 1, x2, x3, M =>
  if x3 < (M.1 55 0 0) then
    (f_X11_isSeated x3 M).bind fun r2 =>
    if r2 = 0 then
      f_X11_showsOne_17 x1 n x2 (x3 + (1 : Int32)) M
    else
      if inb ((42 : Int32) + x3) 2375 = true then
       let x4_4 := (M.1 55 0 (((42 : Int32) + x3).toNatClampNeg))
       if inb ((152 : Int32) + x1) 2375 = true then
        if inb ((22 : Int32) + x3) 2375 = true then
         let x5_7 := (jmax (0 : Int32) ((jabs (M.1 55 0 (((152 : Int32) + x1).toNatClampNeg))) - (M.1 55 0 (((22 : Int32) + x3).toNatClampNeg))))
         if inb ((152 : Int32) + x1) 2375 = true then
          if (M.1 55 0 (((152 : Int32) + x1).toNatClampNeg)) < 0 then
            f_X11_showsOne_109 (fun x2_14 x3_14 M_14 =>
                f_X11_showsOne_17 x1 n x2_14 x3_14 M_14) x1 x2 x3 x4_4 ((42 : Int32) + x3) x4_4 (-x5_7) M
          else
            f_X11_showsOne_109 (fun x2_13 x3_13 M_13 =>
                f_X11_showsOne_17 x1 n x2_13 x3_13 M_13) x1 x2 x3 x4_4 ((42 : Int32) + x3) x4_4 x5_7 M
         else none
        else none
       else none
      else none
  else
    some (x2, M)
noncomputable def f_X11_showsOne (x1 : Int32) (M : Mem) : Option (Int32 × Mem) :=
  let M1 := sR M 55 0 (upd (M.1 55 0) 11 ((M.1 55 0 11) ||| ((1 : Int32) <<< (x1 &&& 31))))
  f_X11_showsOne_17 x1 FU (0 : Int32) (0 : Int32) M1
set_option maxRecDepth 20000 in
set_option maxHeartbeats 2000000 in
theorem b_X11_showsOne_109 {E : wEnv} {Y : YT} (C : Cx E Y cX11_showsOne 6 RX11 2) {q : (Int32 × Mem)} (R : Rx E Y (some .int) (some (.int q.1)) q.2) {x1 : Int32} {x2 : Int32} {x3 : Int32} {x4 : Int32} {ps1 : Int32} {ps2 : Int32} {ps3 : Int32} {k17 : Int32 → Int32 → Mem → Option (Int32 × Mem)} (hk17 : ∀ {x2 : Int32} {x3 : Int32} {M : Mem} , k17 x2 x3 M = some q → G E Y 6 M 17 [(0, .ref (ad E 50 0)), (1, .int x1), (2, .int x2), (3, .int x3)] []) {M : Mem} (h : f_X11_showsOne_109 k17 x1 x2 x3 x4 ps1 ps2 ps3 M = some q) : G E Y 6 M 109 [(0, .ref (ad E 50 0)), (1, .int x1), (2, .int x2), (3, .int x3), (4, .int x4)] [.int ps3, .int ps2, .int ps1, .ref (ad E 55 0)] := by
  unfold f_X11_showsOne_109 at h
  refine g_iadd C dX11_showsOne_109 ?_
  obtain ⟨r9, hr9, h⟩ := Option.bind_eq_some_iff.mp h
  refine call_X11_366 C dX11_showsOne_110 (c_X11_cut_ E hr9) (by decide) rfl ?_
  obtain ⟨hb10, h⟩ := of_ite h
  refine st_55 (j := _) C dX11_showsOne_113 (by decide) hb10 rfl ?_
  refine g_iload_n C dX11_showsOne_114 rfl rfl ?_
  refine g_aload_n C dX11_showsOne_115 rfl rfl ?_
  refine get_X11_35 C dX11_showsOne_116 (by decide) ?_
  refine g_bipush (v := (42 : Int32)) C dX11_showsOne_119 (by decide) ?_
  refine g_iload_n C dX11_showsOne_121 rfl rfl ?_
  refine g_iadd C dX11_showsOne_122 ?_
  obtain ⟨hb12, h⟩ := of_ite h
  refine ld_55 (j := _) C dX11_showsOne_123 (by decide) hb12 rfl ?_
  refine g_iload C dX11_showsOne_124 rfl ?_
  refine g_icmp_ne (tgt := 133) C dX11_showsOne_126 (by decide) h (fun h => ?_) (fun h => ?_)
  · refine g_iconst (v := (1 : Int32)) C dX11_showsOne_133 (by decide) ?_
    refine g_iadd C dX11_showsOne_134 ?_
    refine g_istore_n C dX11_showsOne_135 rfl rfl ?_
    refine g_iinc (w := (1 : Int32)) C dX11_showsOne_136 rfl (by decide) rfl ?_
    refine g_goto (tgt := 17) C dX11_showsOne_139 (by decide) ?_
    exact g_sub (hk17 h) ⟨rfl, rfl, rfl, rfl, trivial⟩
  · refine g_iconst (v := (0 : Int32)) C dX11_showsOne_129 (by decide) ?_
    refine g_goto (tgt := 134) C dX11_showsOne_130 (by decide) ?_
    refine g_iadd C dX11_showsOne_134 ?_
    refine g_istore_n C dX11_showsOne_135 rfl rfl ?_
    refine g_iinc (w := (1 : Int32)) C dX11_showsOne_136 rfl (by decide) rfl ?_
    refine g_goto (tgt := 17) C dX11_showsOne_139 (by decide) ?_
    exact g_sub (hk17 h) ⟨rfl, rfl, rfl, rfl, trivial⟩
set_option maxRecDepth 20000 in
set_option maxHeartbeats 2000000 in
theorem b_X11_showsOne_17 {E : wEnv} {Y : YT} (C : Cx E Y cX11_showsOne 6 RX11 2) {q : (Int32 × Mem)} (R : Rx E Y (some .int) (some (.int q.1)) q.2) {x1 : Int32} (n : Nat) : ∀ {x2 : Int32} {x3 : Int32} {M : Mem} (_ : f_X11_showsOne_17 x1 n x2 x3 M = some q), G E Y 6 M 17 [(0, .ref (ad E 50 0)), (1, .int x1), (2, .int x2), (3, .int x3)] [] := by
  induction n with
  | zero =>
    intro x2 x3 M h
    cases (show none = some q from h)
  | succ n ih =>
    intro x2 x3 M h
    rw [f_X11_showsOne_17] at h
    refine g_iload_n C dX11_showsOne_17 rfl rfl ?_
    refine g_aload_n C dX11_showsOne_18 rfl rfl ?_
    refine get_X11_35 C dX11_showsOne_19 (by decide) ?_
    refine g_iconst (v := (0 : Int32)) C dX11_showsOne_22 (by decide) ?_
    refine ld_55 (j := 0) C dX11_showsOne_23 (by decide) (by decide) rfl ?_
    refine g_icmp_ge (tgt := 142) C dX11_showsOne_24 (by decide) h (fun h => ?_) (fun h => ?_)
    · refine g_iload_n C dX11_showsOne_142 rfl rfl ?_
      exact g_iret C R dX11_showsOne_143 (fst_of h) (snd_of h)
    · refine g_aload_n C dX11_showsOne_27 rfl rfl ?_
      refine g_iload_n C dX11_showsOne_28 rfl rfl ?_
      obtain ⟨r2, hr2, h⟩ := Option.bind_eq_some_iff.mp h
      refine call_X11_361 C dX11_showsOne_29 (by decide) (c_X11_isSeated E hr2) (by decide) rfl ?_
      refine g_if_ne (tgt := 38) C dX11_showsOne_32 (by decide) h (fun h => ?_) (fun h => ?_)
      · refine g_aload_n C dX11_showsOne_38 rfl rfl ?_
        refine get_X11_35 C dX11_showsOne_39 (by decide) ?_
        refine g_bipush (v := (42 : Int32)) C dX11_showsOne_42 (by decide) ?_
        refine g_iload_n C dX11_showsOne_44 rfl rfl ?_
        refine g_iadd C dX11_showsOne_45 ?_
        obtain ⟨hb3, h⟩ := of_ite h
        refine ld_55 (j := _) C dX11_showsOne_46 (by decide) hb3 rfl ?_
        refine g_istore C dX11_showsOne_47 rfl ?_
        refine g_iconst (v := (0 : Int32)) C dX11_showsOne_49 (by decide) ?_
        refine g_aload_n C dX11_showsOne_50 rfl rfl ?_
        refine get_X11_35 C dX11_showsOne_51 (by decide) ?_
        refine g_sipush (v := (152 : Int32)) C dX11_showsOne_54 (by decide) ?_
        refine g_iload_n C dX11_showsOne_57 rfl rfl ?_
        refine g_iadd C dX11_showsOne_58 ?_
        obtain ⟨hb5, h⟩ := of_ite h
        refine ld_55 (j := _) C dX11_showsOne_59 (by decide) hb5 rfl ?_
        refine call_X11_364 C dX11_showsOne_60 (by decide) rfl ?_
        refine g_aload_n C dX11_showsOne_63 rfl rfl ?_
        refine get_X11_35 C dX11_showsOne_64 (by decide) ?_
        refine g_bipush (v := (22 : Int32)) C dX11_showsOne_67 (by decide) ?_
        refine g_iload_n C dX11_showsOne_69 rfl rfl ?_
        refine g_iadd C dX11_showsOne_70 ?_
        obtain ⟨hb6, h⟩ := of_ite h
        refine ld_55 (j := _) C dX11_showsOne_71 (by decide) hb6 rfl ?_
        refine g_isub C dX11_showsOne_72 ?_
        refine call_X11_264 C dX11_showsOne_73 (by decide) rfl ?_
        refine g_istore C dX11_showsOne_76 rfl ?_
        refine g_aload_n C dX11_showsOne_78 rfl rfl ?_
        refine get_X11_35 C dX11_showsOne_79 (by decide) ?_
        refine g_bipush (v := (42 : Int32)) C dX11_showsOne_82 (by decide) ?_
        refine g_iload_n C dX11_showsOne_84 rfl rfl ?_
        refine g_iadd C dX11_showsOne_85 ?_
        refine g_iload C dX11_showsOne_86 rfl ?_
        refine g_aload_n C dX11_showsOne_88 rfl rfl ?_
        refine get_X11_35 C dX11_showsOne_89 (by decide) ?_
        refine g_sipush (v := (152 : Int32)) C dX11_showsOne_92 (by decide) ?_
        refine g_iload_n C dX11_showsOne_95 rfl rfl ?_
        refine g_iadd C dX11_showsOne_96 ?_
        obtain ⟨hb8, h⟩ := of_ite h
        refine ld_55 (j := _) C dX11_showsOne_97 (by decide) hb8 rfl ?_
        refine g_if_ge (tgt := 107) C dX11_showsOne_98 (by decide) h (fun h => ?_) (fun h => ?_)
        · refine g_iload C dX11_showsOne_107 rfl ?_
          refine g_sub (b_X11_showsOne_109 C R ?_  h) ⟨rfl, rfl, rfl, rfl, rfl, trivial⟩
          · clear h
            intro x2_13 x3_13 M_13 h
            exact g_sub (ih h) ⟨rfl, rfl, rfl, rfl, trivial⟩
        · refine g_iload C dX11_showsOne_101 rfl ?_
          refine g_ineg C dX11_showsOne_103 ?_
          refine g_goto (tgt := 109) C dX11_showsOne_104 (by decide) ?_
          refine g_sub (b_X11_showsOne_109 C R ?_  h) ⟨rfl, rfl, rfl, rfl, rfl, trivial⟩
          · clear h
            intro x2_14 x3_14 M_14 h
            exact g_sub (ih h) ⟨rfl, rfl, rfl, rfl, trivial⟩
      · refine g_goto (tgt := 136) C dX11_showsOne_35 (by decide) ?_
        refine g_iinc (w := (1 : Int32)) C dX11_showsOne_136 rfl (by decide) rfl ?_
        refine g_goto (tgt := 17) C dX11_showsOne_139 (by decide) ?_
        exact g_sub (ih h) ⟨rfl, rfl, rfl, rfl, trivial⟩
set_option maxRecDepth 20000 in
set_option maxHeartbeats 2000000 in
theorem c_X11_showsOne (E : wEnv) {x1 : Int32} {M : Mem} {q : (Int32 × Mem)} (h : f_X11_showsOne x1 M = some q) : Mt E yX11_showsOne cX11_showsOne 6 (some .int) 2 [.ref (ad E 50 0), .int x1] M (some (.int q.1)) q.2 := by
  unfold f_X11_showsOne at h
  refine mt_intro (own := RX11) (lv0 := [(0, .ref (ad E 50 0)), (1, .int x1)]) (by decide) rfl rfl rfl (fun Y C R => ?_)
  refine g_aload_n C dX11_showsOne_0 rfl rfl ?_
  refine get_X11_35 C dX11_showsOne_1 (by decide) ?_
  refine g_bipush (v := (11 : Int32)) C dX11_showsOne_4 (by decide) ?_
  refine g_dup2 C dX11_showsOne_6 rfl rfl ?_
  refine ld_55 (j := 11) C dX11_showsOne_7 (by decide) (by decide) rfl ?_
  refine g_iconst (v := (1 : Int32)) C dX11_showsOne_8 (by decide) ?_
  refine g_iload_n C dX11_showsOne_9 rfl rfl ?_
  refine g_ishl C dX11_showsOne_10 ?_
  refine g_ior C dX11_showsOne_11 ?_
  refine st_55 (j := 11) C dX11_showsOne_12 (by decide) (by decide) rfl ?_
  refine g_iconst (v := (0 : Int32)) C dX11_showsOne_13 (by decide) ?_
  refine g_istore_n C dX11_showsOne_14 rfl rfl ?_
  refine g_iconst (v := (0 : Int32)) C dX11_showsOne_15 (by decide) ?_
  refine g_istore_n C dX11_showsOne_16 rfl rfl ?_
  exact g_sub (b_X11_showsOne_17 C R _ h) ⟨rfl, rfl, rfl, rfl, trivial⟩
noncomputable def f_X11_show (x1 : Int32) (M : Mem) : Option (Int32 × Mem) :=
  let M1 := sR M 50 0 (upd (M.1 50 0) 1 (0 : Int32))
  let M2 := sR M1 50 0 (upd (M1.1 50 0) 0 (0 : Int32))
  (f_X11_isIn x1.toInt64 (0 : Int64) (((M2.1 55 0 1) - (1 : Int32)).toInt64)).bind fun r3 =>
  if r3 = 0 then
    (f_X11_refuse (2 : Int32) M2).bind fun q7 =>
    some (q7.1, q7.2)
  else
    (f_X11_has (M2.1 55 0 11) x1).bind fun r4 =>
    if r4 = 0 then
      (f_X11_showsOne x1 M2).bind fun q5 =>
      some (q5.1, q5.2)
    else
      (f_X11_refuse (9 : Int32) M2).bind fun q6 =>
      some (q6.1, q6.2)
set_option maxRecDepth 20000 in
set_option maxHeartbeats 2000000 in
theorem c_X11_show (E : wEnv) {x1 : Int32} {M : Mem} {q : (Int32 × Mem)} (h : f_X11_show x1 M = some q) : Mt E yX11_show cX11_show 2 (some .int) 3 [.ref (ad E 50 0), .int x1] M (some (.int q.1)) q.2 := by
  unfold f_X11_show at h
  refine mt_intro (own := RX11) (lv0 := [(0, .ref (ad E 50 0)), (1, .int x1)]) (by decide) rfl rfl rfl (fun Y C R => ?_)
  refine g_aload_n C dX11_show_0 rfl rfl ?_
  refine g_iconst (v := (0 : Int32)) C dX11_show_1 (by decide) ?_
  refine put_X11_71 C dX11_show_2 (by decide) ?_
  refine g_aload_n C dX11_show_5 rfl rfl ?_
  refine g_iconst (v := (0 : Int32)) C dX11_show_6 (by decide) ?_
  refine put_X11_74 C dX11_show_7 (by decide) ?_
  refine g_iload_n C dX11_show_10 rfl rfl ?_
  refine g_i2l C dX11_show_11 ?_
  refine g_lconst (v := (0 : Int64)) C dX11_show_12 (by decide) ?_
  refine g_aload_n C dX11_show_13 rfl rfl ?_
  refine get_X11_35 C dX11_show_14 (by decide) ?_
  refine g_iconst (v := (1 : Int32)) C dX11_show_17 (by decide) ?_
  refine ld_55 (j := 1) C dX11_show_18 (by decide) (by decide) rfl ?_
  refine g_iconst (v := (1 : Int32)) C dX11_show_19 (by decide) ?_
  refine g_isub C dX11_show_20 ?_
  refine g_i2l C dX11_show_21 ?_
  obtain ⟨r3, hr3, h⟩ := Option.bind_eq_some_iff.mp h
  refine call_X11_106 C dX11_show_22 (c_X11_isIn E hr3) (by decide) rfl ?_
  refine g_if_ne (tgt := 34) C dX11_show_25 (by decide) h (fun h => ?_) (fun h => ?_)
  · refine g_aload_n C dX11_show_34 rfl rfl ?_
    refine get_X11_35 C dX11_show_35 (by decide) ?_
    refine g_bipush (v := (11 : Int32)) C dX11_show_38 (by decide) ?_
    refine ld_55 (j := 11) C dX11_show_40 (by decide) (by decide) rfl ?_
    refine g_iload_n C dX11_show_41 rfl rfl ?_
    obtain ⟨r4, hr4, h⟩ := Option.bind_eq_some_iff.mp h
    refine call_X11_110 C dX11_show_42 (c_X11_has E hr4) (by decide) rfl ?_
    refine g_if_eq (tgt := 57) C dX11_show_45 (by decide) h (fun h => ?_) (fun h => ?_)
    · refine g_aload_n C dX11_show_57 rfl rfl ?_
      refine g_iload_n C dX11_show_58 rfl rfl ?_
      obtain ⟨q5, hr5, h⟩ := Option.bind_eq_some_iff.mp h
      refine call_X11_368 C dX11_show_59 (by decide) (c_X11_showsOne E hr5) (by decide) rfl ?_
      exact g_iret C R dX11_show_62 (fst_of h) (snd_of h)
    · refine g_aload_n C dX11_show_48 rfl rfl ?_
      refine g_bipush (v := (9 : Int32)) C dX11_show_49 (by decide) ?_
      obtain ⟨q6, hr6, h⟩ := Option.bind_eq_some_iff.mp h
      refine call_X11_340 C dX11_show_51 (by decide) (c_X11_refuse E hr6) (by decide) rfl ?_
      refine g_goto (tgt := 62) C dX11_show_54 (by decide) ?_
      exact g_iret C R dX11_show_62 (fst_of h) (snd_of h)
  · refine g_aload_n C dX11_show_28 rfl rfl ?_
    refine g_iconst (v := (2 : Int32)) C dX11_show_29 (by decide) ?_
    obtain ⟨q7, hr7, h⟩ := Option.bind_eq_some_iff.mp h
    refine call_X11_340 C dX11_show_30 (by decide) (c_X11_refuse E hr7) (by decide) rfl ?_
    exact g_iret C R dX11_show_33 (fst_of h) (snd_of h)
noncomputable def f_X11_pulled_4 (x1 : Int32) (M : Mem) : Nat → Int32 → Int32 → Option Int32
  | 0, _, _ => none
  | n + 1, x2, x3 =>
  if x3 < (M.1 55 0 0) then
    if x3 = x1 then
      f_X11_pulled_4 x1 M n x2 (x3 + (1 : Int32))
    else
      (f_X11_isSeated x3 M).bind fun r5 =>
      if r5 = 0 then
        f_X11_pulled_4 x1 M n x2 (x3 + (1 : Int32))
      else
        if inb ((42 : Int32) + x3) 2375 = true then
         if (M.1 55 0 (((42 : Int32) + x3).toNatClampNeg)) = 0 then
           f_X11_pulled_4 x1 M n x2 (x3 + (1 : Int32))
         else
           if inb ((42 : Int32) + x3) 2375 = true then
            if 0 < (M.1 55 0 (((42 : Int32) + x3).toNatClampNeg)) then
              if inb (((52 : Int32) + ((10 : Int32) * x3)) + x1) 2375 = true then
               let x2_11 := (x2 + (M.1 55 0 ((((52 : Int32) + ((10 : Int32) * x3)) + x1).toNatClampNeg)))
               f_X11_pulled_4 x1 M n x2_11 (x3 + (1 : Int32))
              else none
            else
              if inb (((52 : Int32) + ((10 : Int32) * x3)) + x1) 2375 = true then
               let x2_9 := (x2 + (-(M.1 55 0 ((((52 : Int32) + ((10 : Int32) * x3)) + x1).toNatClampNeg))))
               f_X11_pulled_4 x1 M n x2_9 (x3 + (1 : Int32))
              else none
           else none
        else none
  else
    if inb ((22 : Int32) + x1) 2375 = true then
     if (M.1 55 0 (((22 : Int32) + x1).toNatClampNeg)) < (jabs x2) then
       if inb ((42 : Int32) + x1) 2375 = true then
        (f_X11_cut_ ((M.1 55 0 (((42 : Int32) + x1).toNatClampNeg)) + x2)).bind fun r4 =>
        some r4
       else none
     else
       if inb ((42 : Int32) + x1) 2375 = true then
        some (M.1 55 0 (((42 : Int32) + x1).toNatClampNeg))
       else none
    else none
noncomputable def f_X11_pulled (x1 : Int32) (M : Mem) : Option Int32 :=
  f_X11_pulled_4 x1 M FU (0 : Int32) (0 : Int32)
set_option maxRecDepth 20000 in
set_option maxHeartbeats 2000000 in
theorem b_X11_pulled_4 {E : wEnv} {Y : YT} (C : Cx E Y cX11_pulled 4 RX11 2) {q : Int32} {M : Mem} (R : Rx E Y (some .int) (some (.int q)) M) {x1 : Int32} (n : Nat) : ∀ {x2 : Int32} {x3 : Int32} (_ : f_X11_pulled_4 x1 M n x2 x3 = some q), G E Y 4 M 4 [(0, .ref (ad E 50 0)), (1, .int x1), (2, .int x2), (3, .int x3)] [] := by
  induction n with
  | zero =>
    intro x2 x3 h
    cases (show none = some q from h)
  | succ n ih =>
    intro x2 x3 h
    rw [f_X11_pulled_4] at h
    refine g_iload_n C dX11_pulled_4 rfl rfl ?_
    refine g_aload_n C dX11_pulled_5 rfl rfl ?_
    refine get_X11_35 C dX11_pulled_6 (by decide) ?_
    refine g_iconst (v := (0 : Int32)) C dX11_pulled_9 (by decide) ?_
    refine ld_55 (j := 0) C dX11_pulled_10 (by decide) (by decide) rfl ?_
    refine g_icmp_ge (tgt := 95) C dX11_pulled_11 (by decide) h (fun h => ?_) (fun h => ?_)
    · refine g_iload_n C dX11_pulled_95 rfl rfl ?_
      refine call_X11_364 C dX11_pulled_96 (by decide) rfl ?_
      refine g_aload_n C dX11_pulled_99 rfl rfl ?_
      refine get_X11_35 C dX11_pulled_100 (by decide) ?_
      refine g_bipush (v := (22 : Int32)) C dX11_pulled_103 (by decide) ?_
      refine g_iload_n C dX11_pulled_105 rfl rfl ?_
      refine g_iadd C dX11_pulled_106 ?_
      obtain ⟨hb1, h⟩ := of_ite h
      refine ld_55 (j := _) C dX11_pulled_107 (by decide) hb1 rfl ?_
      refine g_icmp_le (tgt := 128) C dX11_pulled_108 (by decide) h (fun h => ?_) (fun h => ?_)
      · refine g_aload_n C dX11_pulled_128 rfl rfl ?_
        refine get_X11_35 C dX11_pulled_129 (by decide) ?_
        refine g_bipush (v := (42 : Int32)) C dX11_pulled_132 (by decide) ?_
        refine g_iload_n C dX11_pulled_134 rfl rfl ?_
        refine g_iadd C dX11_pulled_135 ?_
        obtain ⟨hb2, h⟩ := of_ite h
        refine ld_55 (j := _) C dX11_pulled_136 (by decide) hb2 rfl ?_
        exact g_iret C R dX11_pulled_137 (Option.some.inj h) rfl
      · refine g_aload_n C dX11_pulled_111 rfl rfl ?_
        refine get_X11_35 C dX11_pulled_112 (by decide) ?_
        refine g_bipush (v := (42 : Int32)) C dX11_pulled_115 (by decide) ?_
        refine g_iload_n C dX11_pulled_117 rfl rfl ?_
        refine g_iadd C dX11_pulled_118 ?_
        obtain ⟨hb3, h⟩ := of_ite h
        refine ld_55 (j := _) C dX11_pulled_119 (by decide) hb3 rfl ?_
        refine g_iload_n C dX11_pulled_120 rfl rfl ?_
        refine g_iadd C dX11_pulled_121 ?_
        obtain ⟨r4, hr4, h⟩ := Option.bind_eq_some_iff.mp h
        refine call_X11_366 C dX11_pulled_122 (c_X11_cut_ E hr4) (by decide) rfl ?_
        refine g_goto (tgt := 137) C dX11_pulled_125 (by decide) ?_
        exact g_iret C R dX11_pulled_137 (Option.some.inj h) rfl
    · refine g_iload_n C dX11_pulled_14 rfl rfl ?_
      refine g_iload_n C dX11_pulled_15 rfl rfl ?_
      refine g_icmp_eq (tgt := 89) C dX11_pulled_16 (by decide) h (fun h => ?_) (fun h => ?_)
      · refine g_iinc (w := (1 : Int32)) C dX11_pulled_89 rfl (by decide) rfl ?_
        refine g_goto (tgt := 4) C dX11_pulled_92 (by decide) ?_
        exact g_sub (ih h) ⟨rfl, rfl, rfl, rfl, trivial⟩
      · refine g_aload_n C dX11_pulled_19 rfl rfl ?_
        refine g_iload_n C dX11_pulled_20 rfl rfl ?_
        obtain ⟨r5, hr5, h⟩ := Option.bind_eq_some_iff.mp h
        refine call_X11_361 C dX11_pulled_21 (by decide) (c_X11_isSeated E hr5) (by decide) rfl ?_
        refine g_if_eq (tgt := 89) C dX11_pulled_24 (by decide) h (fun h => ?_) (fun h => ?_)
        · refine g_iinc (w := (1 : Int32)) C dX11_pulled_89 rfl (by decide) rfl ?_
          refine g_goto (tgt := 4) C dX11_pulled_92 (by decide) ?_
          exact g_sub (ih h) ⟨rfl, rfl, rfl, rfl, trivial⟩
        · refine g_aload_n C dX11_pulled_27 rfl rfl ?_
          refine get_X11_35 C dX11_pulled_28 (by decide) ?_
          refine g_bipush (v := (42 : Int32)) C dX11_pulled_31 (by decide) ?_
          refine g_iload_n C dX11_pulled_33 rfl rfl ?_
          refine g_iadd C dX11_pulled_34 ?_
          obtain ⟨hb6, h⟩ := of_ite h
          refine ld_55 (j := _) C dX11_pulled_35 (by decide) hb6 rfl ?_
          refine g_if_ne (tgt := 42) C dX11_pulled_36 (by decide) h (fun h => ?_) (fun h => ?_)
          · refine g_iload_n C dX11_pulled_42 rfl rfl ?_
            refine g_aload_n C dX11_pulled_43 rfl rfl ?_
            refine get_X11_35 C dX11_pulled_44 (by decide) ?_
            refine g_bipush (v := (42 : Int32)) C dX11_pulled_47 (by decide) ?_
            refine g_iload_n C dX11_pulled_49 rfl rfl ?_
            refine g_iadd C dX11_pulled_50 ?_
            obtain ⟨hb7, h⟩ := of_ite h
            refine ld_55 (j := _) C dX11_pulled_51 (by decide) hb7 rfl ?_
            refine g_if_le (tgt := 72) C dX11_pulled_52 (by decide) h (fun h => ?_) (fun h => ?_)
            · refine g_aload_n C dX11_pulled_72 rfl rfl ?_
              refine get_X11_35 C dX11_pulled_73 (by decide) ?_
              refine g_bipush (v := (52 : Int32)) C dX11_pulled_76 (by decide) ?_
              refine g_bipush (v := (10 : Int32)) C dX11_pulled_78 (by decide) ?_
              refine g_iload_n C dX11_pulled_80 rfl rfl ?_
              refine g_imul C dX11_pulled_81 ?_
              refine g_iadd C dX11_pulled_82 ?_
              refine g_iload_n C dX11_pulled_83 rfl rfl ?_
              refine g_iadd C dX11_pulled_84 ?_
              obtain ⟨hb8, h⟩ := of_ite h
              refine ld_55 (j := _) C dX11_pulled_85 (by decide) hb8 rfl ?_
              refine g_ineg C dX11_pulled_86 ?_
              refine g_iadd C dX11_pulled_87 ?_
              refine g_istore_n C dX11_pulled_88 rfl rfl ?_
              refine g_iinc (w := (1 : Int32)) C dX11_pulled_89 rfl (by decide) rfl ?_
              refine g_goto (tgt := 4) C dX11_pulled_92 (by decide) ?_
              exact g_sub (ih h) ⟨rfl, rfl, rfl, rfl, trivial⟩
            · refine g_aload_n C dX11_pulled_55 rfl rfl ?_
              refine get_X11_35 C dX11_pulled_56 (by decide) ?_
              refine g_bipush (v := (52 : Int32)) C dX11_pulled_59 (by decide) ?_
              refine g_bipush (v := (10 : Int32)) C dX11_pulled_61 (by decide) ?_
              refine g_iload_n C dX11_pulled_63 rfl rfl ?_
              refine g_imul C dX11_pulled_64 ?_
              refine g_iadd C dX11_pulled_65 ?_
              refine g_iload_n C dX11_pulled_66 rfl rfl ?_
              refine g_iadd C dX11_pulled_67 ?_
              obtain ⟨hb10, h⟩ := of_ite h
              refine ld_55 (j := _) C dX11_pulled_68 (by decide) hb10 rfl ?_
              refine g_goto (tgt := 87) C dX11_pulled_69 (by decide) ?_
              refine g_iadd C dX11_pulled_87 ?_
              refine g_istore_n C dX11_pulled_88 rfl rfl ?_
              refine g_iinc (w := (1 : Int32)) C dX11_pulled_89 rfl (by decide) rfl ?_
              refine g_goto (tgt := 4) C dX11_pulled_92 (by decide) ?_
              exact g_sub (ih h) ⟨rfl, rfl, rfl, rfl, trivial⟩
          · refine g_goto (tgt := 89) C dX11_pulled_39 (by decide) ?_
            refine g_iinc (w := (1 : Int32)) C dX11_pulled_89 rfl (by decide) rfl ?_
            refine g_goto (tgt := 4) C dX11_pulled_92 (by decide) ?_
            exact g_sub (ih h) ⟨rfl, rfl, rfl, rfl, trivial⟩
set_option maxRecDepth 20000 in
set_option maxHeartbeats 2000000 in
theorem c_X11_pulled (E : wEnv) {x1 : Int32} {M : Mem} {q : Int32} (h : f_X11_pulled x1 M = some q) : Mt E yX11_pulled cX11_pulled 4 (some .int) 2 [.ref (ad E 50 0), .int x1] M (some (.int q)) M := by
  unfold f_X11_pulled at h
  refine mt_intro (own := RX11) (lv0 := [(0, .ref (ad E 50 0)), (1, .int x1)]) (by decide) rfl rfl rfl (fun Y C R => ?_)
  refine g_iconst (v := (0 : Int32)) C dX11_pulled_0 (by decide) ?_
  refine g_istore_n C dX11_pulled_1 rfl rfl ?_
  refine g_iconst (v := (0 : Int32)) C dX11_pulled_2 (by decide) ?_
  refine g_istore_n C dX11_pulled_3 rfl rfl ?_
  exact g_sub (b_X11_pulled_4 C R _ h) ⟨rfl, rfl, rfl, rfl, trivial⟩
noncomputable def f_X11_votesFor_40 (k4 : Int32 → Int32 → Option Int32) (x1 : Int32) (x3 : Int32) (ps0 : Int32) (ps1 : Int32) (M : Mem) : Option Int32 :=
  if 0 < x1 then
    if ps1 = (1 : Int32) then
      k4 (ps0 + (1 : Int32)) (x3 + (1 : Int32))
    else
      k4 (ps0 + (0 : Int32)) (x3 + (1 : Int32))
  else
    if ps1 = (0 : Int32) then
      k4 (ps0 + (1 : Int32)) (x3 + (1 : Int32))
    else
      k4 (ps0 + (0 : Int32)) (x3 + (1 : Int32))
noncomputable def f_X11_votesFor_4 (x1 : Int32) (M : Mem) : Nat → Int32 → Int32 → Option Int32
  | 0, _, _ => none
  | n + 1, x2, x3 =>
  if x3 < (M.1 55 0 0) then
    (f_X11_isSeated x3 M).bind fun r1 =>
    if r1 = 0 then
      f_X11_votesFor_4 x1 M n (x2 + (0 : Int32)) (x3 + (1 : Int32))
    else
      if inb ((42 : Int32) + x3) 2375 = true then
       if 0 < (M.1 55 0 (((42 : Int32) + x3).toNatClampNeg)) then
         f_X11_votesFor_40 (fun x2_4 x3_4 =>
             f_X11_votesFor_4 x1 M n x2_4 x3_4) x1 x3 x2 (1 : Int32) M
       else
         f_X11_votesFor_40 (fun x2_3 x3_3 =>
             f_X11_votesFor_4 x1 M n x2_3 x3_3) x1 x3 x2 (0 : Int32) M
      else none
  else
    some x2
noncomputable def f_X11_votesFor (x1 : Int32) (M : Mem) : Option Int32 :=
  f_X11_votesFor_4 x1 M FU (0 : Int32) (0 : Int32)
set_option maxRecDepth 20000 in
set_option maxHeartbeats 2000000 in
theorem b_X11_votesFor_40 {E : wEnv} {Y : YT} (C : Cx E Y cX11_votesFor 4 RX11 2) {q : Int32} {M : Mem} (R : Rx E Y (some .int) (some (.int q)) M) {x1 : Int32} {x3 : Int32} {ps0 : Int32} {ps1 : Int32} {k4 : Int32 → Int32 → Option Int32} (hk4 : ∀ {x2 : Int32} {x3 : Int32} , k4 x2 x3 = some q → G E Y 4 M 4 [(0, .ref (ad E 50 0)), (1, .int x1), (2, .int x2), (3, .int x3)] []) (h : f_X11_votesFor_40 k4 x1 x3 ps0 ps1 M = some q) : G E Y 4 M 40 [(0, .ref (ad E 50 0)), (1, .int x1), (3, .int x3)] [.int ps1, .int ps0] := by
  unfold f_X11_votesFor_40 at h
  refine g_iload_n C dX11_votesFor_40 rfl rfl ?_
  refine g_if_le (tgt := 48) C dX11_votesFor_41 (by decide) h (fun h => ?_) (fun h => ?_)
  · refine g_iconst (v := (0 : Int32)) C dX11_votesFor_48 (by decide) ?_
    refine g_icmp_ne (tgt := 56) C dX11_votesFor_49 (by decide) h (fun h => ?_) (fun h => ?_)
    · refine g_iconst (v := (0 : Int32)) C dX11_votesFor_56 (by decide) ?_
      refine g_iadd C dX11_votesFor_57 ?_
      refine g_istore_n C dX11_votesFor_58 rfl rfl ?_
      refine g_iinc (w := (1 : Int32)) C dX11_votesFor_59 rfl (by decide) rfl ?_
      refine g_goto (tgt := 4) C dX11_votesFor_62 (by decide) ?_
      exact g_sub (hk4 h) ⟨rfl, rfl, rfl, rfl, trivial⟩
    · refine g_iconst (v := (1 : Int32)) C dX11_votesFor_52 (by decide) ?_
      refine g_goto (tgt := 57) C dX11_votesFor_53 (by decide) ?_
      refine g_iadd C dX11_votesFor_57 ?_
      refine g_istore_n C dX11_votesFor_58 rfl rfl ?_
      refine g_iinc (w := (1 : Int32)) C dX11_votesFor_59 rfl (by decide) rfl ?_
      refine g_goto (tgt := 4) C dX11_votesFor_62 (by decide) ?_
      exact g_sub (hk4 h) ⟨rfl, rfl, rfl, rfl, trivial⟩
  · refine g_iconst (v := (1 : Int32)) C dX11_votesFor_44 (by decide) ?_
    refine g_goto (tgt := 49) C dX11_votesFor_45 (by decide) ?_
    refine g_icmp_ne (tgt := 56) C dX11_votesFor_49 (by decide) h (fun h => ?_) (fun h => ?_)
    · refine g_iconst (v := (0 : Int32)) C dX11_votesFor_56 (by decide) ?_
      refine g_iadd C dX11_votesFor_57 ?_
      refine g_istore_n C dX11_votesFor_58 rfl rfl ?_
      refine g_iinc (w := (1 : Int32)) C dX11_votesFor_59 rfl (by decide) rfl ?_
      refine g_goto (tgt := 4) C dX11_votesFor_62 (by decide) ?_
      exact g_sub (hk4 h) ⟨rfl, rfl, rfl, rfl, trivial⟩
    · refine g_iconst (v := (1 : Int32)) C dX11_votesFor_52 (by decide) ?_
      refine g_goto (tgt := 57) C dX11_votesFor_53 (by decide) ?_
      refine g_iadd C dX11_votesFor_57 ?_
      refine g_istore_n C dX11_votesFor_58 rfl rfl ?_
      refine g_iinc (w := (1 : Int32)) C dX11_votesFor_59 rfl (by decide) rfl ?_
      refine g_goto (tgt := 4) C dX11_votesFor_62 (by decide) ?_
      exact g_sub (hk4 h) ⟨rfl, rfl, rfl, rfl, trivial⟩
set_option maxRecDepth 20000 in
set_option maxHeartbeats 2000000 in
theorem b_X11_votesFor_4 {E : wEnv} {Y : YT} (C : Cx E Y cX11_votesFor 4 RX11 2) {q : Int32} {M : Mem} (R : Rx E Y (some .int) (some (.int q)) M) {x1 : Int32} (n : Nat) : ∀ {x2 : Int32} {x3 : Int32} (_ : f_X11_votesFor_4 x1 M n x2 x3 = some q), G E Y 4 M 4 [(0, .ref (ad E 50 0)), (1, .int x1), (2, .int x2), (3, .int x3)] [] := by
  induction n with
  | zero =>
    intro x2 x3 h
    cases (show none = some q from h)
  | succ n ih =>
    intro x2 x3 h
    rw [f_X11_votesFor_4] at h
    refine g_iload_n C dX11_votesFor_4 rfl rfl ?_
    refine g_aload_n C dX11_votesFor_5 rfl rfl ?_
    refine get_X11_35 C dX11_votesFor_6 (by decide) ?_
    refine g_iconst (v := (0 : Int32)) C dX11_votesFor_9 (by decide) ?_
    refine ld_55 (j := 0) C dX11_votesFor_10 (by decide) (by decide) rfl ?_
    refine g_icmp_ge (tgt := 65) C dX11_votesFor_11 (by decide) h (fun h => ?_) (fun h => ?_)
    · refine g_iload_n C dX11_votesFor_65 rfl rfl ?_
      exact g_iret C R dX11_votesFor_66 (Option.some.inj h) rfl
    · refine g_iload_n C dX11_votesFor_14 rfl rfl ?_
      refine g_aload_n C dX11_votesFor_15 rfl rfl ?_
      refine g_iload_n C dX11_votesFor_16 rfl rfl ?_
      obtain ⟨r1, hr1, h⟩ := Option.bind_eq_some_iff.mp h
      refine call_X11_361 C dX11_votesFor_17 (by decide) (c_X11_isSeated E hr1) (by decide) rfl ?_
      refine g_if_eq (tgt := 56) C dX11_votesFor_20 (by decide) h (fun h => ?_) (fun h => ?_)
      · refine g_iconst (v := (0 : Int32)) C dX11_votesFor_56 (by decide) ?_
        refine g_iadd C dX11_votesFor_57 ?_
        refine g_istore_n C dX11_votesFor_58 rfl rfl ?_
        refine g_iinc (w := (1 : Int32)) C dX11_votesFor_59 rfl (by decide) rfl ?_
        refine g_goto (tgt := 4) C dX11_votesFor_62 (by decide) ?_
        exact g_sub (ih h) ⟨rfl, rfl, rfl, rfl, trivial⟩
      · refine g_aload_n C dX11_votesFor_23 rfl rfl ?_
        refine get_X11_35 C dX11_votesFor_24 (by decide) ?_
        refine g_bipush (v := (42 : Int32)) C dX11_votesFor_27 (by decide) ?_
        refine g_iload_n C dX11_votesFor_29 rfl rfl ?_
        refine g_iadd C dX11_votesFor_30 ?_
        obtain ⟨hb2, h⟩ := of_ite h
        refine ld_55 (j := _) C dX11_votesFor_31 (by decide) hb2 rfl ?_
        refine g_if_le (tgt := 39) C dX11_votesFor_32 (by decide) h (fun h => ?_) (fun h => ?_)
        · refine g_iconst (v := (0 : Int32)) C dX11_votesFor_39 (by decide) ?_
          refine g_sub (b_X11_votesFor_40 C R ?_  h) ⟨rfl, rfl, rfl, trivial⟩
          · clear h
            intro x2_3 x3_3 h
            exact g_sub (ih h) ⟨rfl, rfl, rfl, rfl, trivial⟩
        · refine g_iconst (v := (1 : Int32)) C dX11_votesFor_35 (by decide) ?_
          refine g_goto (tgt := 40) C dX11_votesFor_36 (by decide) ?_
          refine g_sub (b_X11_votesFor_40 C R ?_  h) ⟨rfl, rfl, rfl, trivial⟩
          · clear h
            intro x2_4 x3_4 h
            exact g_sub (ih h) ⟨rfl, rfl, rfl, rfl, trivial⟩
set_option maxRecDepth 20000 in
set_option maxHeartbeats 2000000 in
theorem c_X11_votesFor (E : wEnv) {x1 : Int32} {M : Mem} {q : Int32} (h : f_X11_votesFor x1 M = some q) : Mt E yX11_votesFor cX11_votesFor 4 (some .int) 2 [.ref (ad E 50 0), .int x1] M (some (.int q)) M := by
  unfold f_X11_votesFor at h
  refine mt_intro (own := RX11) (lv0 := [(0, .ref (ad E 50 0)), (1, .int x1)]) (by decide) rfl rfl rfl (fun Y C R => ?_)
  refine g_iconst (v := (0 : Int32)) C dX11_votesFor_0 (by decide) ?_
  refine g_istore_n C dX11_votesFor_1 rfl rfl ?_
  refine g_iconst (v := (0 : Int32)) C dX11_votesFor_2 (by decide) ?_
  refine g_istore_n C dX11_votesFor_3 rfl rfl ?_
  exact g_sub (b_X11_votesFor_4 C R _ h) ⟨rfl, rfl, rfl, rfl, trivial⟩
noncomputable def f_X11_talks_114 (x3 : Int32) : Nat → Int32 → Mem → Option Mem
  | 0, _, _ => none
  | n + 1, x4, M =>
  if x4 < (M.1 55 0 0) then
    (f_X11_isSeated x4 M).bind fun r4 =>
    if r4 = 0 then
      f_X11_talks_114 x3 n (x4 + (1 : Int32)) M
    else
      if inb ((42 : Int32) + x4) 2375 = true then
       (f_X11_cut_ ((M.1 55 0 (((42 : Int32) + x4).toNatClampNeg)) + x3)).bind fun r6 =>
       if inb ((42 : Int32) + x4) 2375 = true then
        let M8 := sR M 55 0 (upd (M.1 55 0) (((42 : Int32) + x4).toNatClampNeg) r6)
        f_X11_talks_114 x3 n (x4 + (1 : Int32)) M8
       else none
      else none
  else
    some M
noncomputable def f_X11_talks_13 (x1 : Int32) : Nat → Int32 → Mem → Option Mem
  | 0, _, _ => none
  | n + 1, x2, M =>
  if x2 < (M.1 55 0 0) then
    (f_X11_isSeated x2 M).bind fun r9 =>
    if r9 = 0 then
      f_X11_talks_13 x1 n (x2 + (1 : Int32)) M
    else
      (f_X11_pulled x2 M).bind fun r10 =>
      if inb ((42 : Int32) + x2) 2375 = true then
       let M12 := sR M 55 0 (upd (M.1 55 0) (((42 : Int32) + x2).toNatClampNeg) r10)
       f_X11_talks_13 x1 n (x2 + (1 : Int32)) M12
      else none
  else
    if x1 = 0 then
      some M
    else
      if (M.1 55 0 4) = 0 then
        some M
      else
        if (M.1 55 0 7) < (M.1 55 0 4) then
          some M
        else
          (f_X11_votesFor (1 : Int32) M).bind fun r2 =>
          (f_X11_votesFor (-1 : Int32) M).bind fun r3 =>
          if 0 < (r2 - r3) then
            f_X11_talks_114 (1 : Int32) FU (0 : Int32) M
          else
            if (r2 - r3) < 0 then
              f_X11_talks_114 (-1 : Int32) FU (0 : Int32) M
            else
              f_X11_talks_114 (0 : Int32) FU (0 : Int32) M
noncomputable def f_X11_talks (x1 : Int32) (M : Mem) : Option Mem :=
  let M1 := sR M 55 0 (upd (M.1 55 0) 7 ((M.1 55 0 7) + (1 : Int32)))
  f_X11_talks_13 x1 FU (0 : Int32) M1
set_option maxRecDepth 20000 in
set_option maxHeartbeats 2000000 in
theorem b_X11_talks_114 {E : wEnv} {Y : YT} (C : Cx E Y cX11_talks 5 RX11 3) {q : Mem} (R : Rx E Y none none q) {x3 : Int32} (n : Nat) : ∀ {x4 : Int32} {M : Mem} (_ : f_X11_talks_114 x3 n x4 M = some q), G E Y 5 M 114 [(0, .ref (ad E 50 0)), (3, .int x3), (4, .int x4)] [] := by
  induction n with
  | zero =>
    intro x4 M h
    cases (show none = some q from h)
  | succ n ih =>
    intro x4 M h
    rw [f_X11_talks_114] at h
    refine g_iload C dX11_talks_114 rfl ?_
    refine g_aload_n C dX11_talks_116 rfl rfl ?_
    refine get_X11_35 C dX11_talks_117 (by decide) ?_
    refine g_iconst (v := (0 : Int32)) C dX11_talks_120 (by decide) ?_
    refine ld_55 (j := 0) C dX11_talks_121 (by decide) (by decide) rfl ?_
    refine g_icmp_ge (tgt := 165) C dX11_talks_122 (by decide) h (fun h => ?_) (fun h => ?_)
    · exact g_vret C R dX11_talks_165 (Option.some.inj h)
    · refine g_aload_n C dX11_talks_125 rfl rfl ?_
      refine g_iload C dX11_talks_126 rfl ?_
      obtain ⟨r4, hr4, h⟩ := Option.bind_eq_some_iff.mp h
      refine call_X11_361 C dX11_talks_128 (by decide) (c_X11_isSeated E hr4) (by decide) rfl ?_
      refine g_if_eq (tgt := 159) C dX11_talks_131 (by decide) h (fun h => ?_) (fun h => ?_)
      · refine g_iinc (w := (1 : Int32)) C dX11_talks_159 rfl (by decide) rfl ?_
        refine g_goto (tgt := 114) C dX11_talks_162 (by decide) ?_
        exact g_sub (ih h) ⟨rfl, rfl, rfl, trivial⟩
      · refine g_aload_n C dX11_talks_134 rfl rfl ?_
        refine get_X11_35 C dX11_talks_135 (by decide) ?_
        refine g_bipush (v := (42 : Int32)) C dX11_talks_138 (by decide) ?_
        refine g_iload C dX11_talks_140 rfl ?_
        refine g_iadd C dX11_talks_142 ?_
        refine g_aload_n C dX11_talks_143 rfl rfl ?_
        refine get_X11_35 C dX11_talks_144 (by decide) ?_
        refine g_bipush (v := (42 : Int32)) C dX11_talks_147 (by decide) ?_
        refine g_iload C dX11_talks_149 rfl ?_
        refine g_iadd C dX11_talks_151 ?_
        obtain ⟨hb5, h⟩ := of_ite h
        refine ld_55 (j := _) C dX11_talks_152 (by decide) hb5 rfl ?_
        refine g_iload_n C dX11_talks_153 rfl rfl ?_
        refine g_iadd C dX11_talks_154 ?_
        obtain ⟨r6, hr6, h⟩ := Option.bind_eq_some_iff.mp h
        refine call_X11_366 C dX11_talks_155 (c_X11_cut_ E hr6) (by decide) rfl ?_
        obtain ⟨hb7, h⟩ := of_ite h
        refine st_55 (j := _) C dX11_talks_158 (by decide) hb7 rfl ?_
        refine g_iinc (w := (1 : Int32)) C dX11_talks_159 rfl (by decide) rfl ?_
        refine g_goto (tgt := 114) C dX11_talks_162 (by decide) ?_
        exact g_sub (ih h) ⟨rfl, rfl, rfl, trivial⟩
set_option maxRecDepth 20000 in
set_option maxHeartbeats 2000000 in
theorem b_X11_talks_13 {E : wEnv} {Y : YT} (C : Cx E Y cX11_talks 5 RX11 3) {q : Mem} (R : Rx E Y none none q) {x1 : Int32} (n : Nat) : ∀ {x2 : Int32} {M : Mem} (_ : f_X11_talks_13 x1 n x2 M = some q), G E Y 5 M 13 [(0, .ref (ad E 50 0)), (1, .int x1), (2, .int x2)] [] := by
  induction n with
  | zero =>
    intro x2 M h
    cases (show none = some q from h)
  | succ n ih =>
    intro x2 M h
    rw [f_X11_talks_13] at h
    refine g_iload_n C dX11_talks_13 rfl rfl ?_
    refine g_aload_n C dX11_talks_14 rfl rfl ?_
    refine get_X11_35 C dX11_talks_15 (by decide) ?_
    refine g_iconst (v := (0 : Int32)) C dX11_talks_18 (by decide) ?_
    refine ld_55 (j := 0) C dX11_talks_19 (by decide) (by decide) rfl ?_
    refine g_icmp_ge (tgt := 51) C dX11_talks_20 (by decide) h (fun h => ?_) (fun h => ?_)
    · refine g_iload_n C dX11_talks_51 rfl rfl ?_
      refine g_if_eq (tgt := 80) C dX11_talks_52 (by decide) h (fun h => ?_) (fun h => ?_)
      · exact g_vret C R dX11_talks_80 (Option.some.inj h)
      · refine g_aload_n C dX11_talks_55 rfl rfl ?_
        refine get_X11_35 C dX11_talks_56 (by decide) ?_
        refine g_iconst (v := (4 : Int32)) C dX11_talks_59 (by decide) ?_
        refine ld_55 (j := 4) C dX11_talks_60 (by decide) (by decide) rfl ?_
        refine g_if_eq (tgt := 80) C dX11_talks_61 (by decide) h (fun h => ?_) (fun h => ?_)
        · exact g_vret C R dX11_talks_80 (Option.some.inj h)
        · refine g_aload_n C dX11_talks_64 rfl rfl ?_
          refine get_X11_35 C dX11_talks_65 (by decide) ?_
          refine g_bipush (v := (7 : Int32)) C dX11_talks_68 (by decide) ?_
          refine ld_55 (j := 7) C dX11_talks_70 (by decide) (by decide) rfl ?_
          refine g_aload_n C dX11_talks_71 rfl rfl ?_
          refine get_X11_35 C dX11_talks_72 (by decide) ?_
          refine g_iconst (v := (4 : Int32)) C dX11_talks_75 (by decide) ?_
          refine ld_55 (j := 4) C dX11_talks_76 (by decide) (by decide) rfl ?_
          refine g_icmp_ge (tgt := 81) C dX11_talks_77 (by decide) h (fun h => ?_) (fun h => ?_)
          · refine g_aload_n C dX11_talks_81 rfl rfl ?_
            refine g_iconst (v := (1 : Int32)) C dX11_talks_82 (by decide) ?_
            obtain ⟨r2, hr2, h⟩ := Option.bind_eq_some_iff.mp h
            refine call_X11_374 C dX11_talks_83 (by decide) (c_X11_votesFor E hr2) (by decide) rfl ?_
            refine g_aload_n C dX11_talks_86 rfl rfl ?_
            refine g_iconst (v := (-1 : Int32)) C dX11_talks_87 (by decide) ?_
            obtain ⟨r3, hr3, h⟩ := Option.bind_eq_some_iff.mp h
            refine call_X11_374 C dX11_talks_88 (by decide) (c_X11_votesFor E hr3) (by decide) rfl ?_
            refine g_isub C dX11_talks_91 ?_
            refine g_istore_n C dX11_talks_92 rfl rfl ?_
            refine g_iload_n C dX11_talks_93 rfl rfl ?_
            refine g_if_le (tgt := 101) C dX11_talks_94 (by decide) h (fun h => ?_) (fun h => ?_)
            · refine g_iload_n C dX11_talks_101 rfl rfl ?_
              refine g_if_ge (tgt := 109) C dX11_talks_102 (by decide) h (fun h => ?_) (fun h => ?_)
              · refine g_iconst (v := (0 : Int32)) C dX11_talks_109 (by decide) ?_
                refine g_istore_n C dX11_talks_110 rfl rfl ?_
                refine g_iconst (v := (0 : Int32)) C dX11_talks_111 (by decide) ?_
                refine g_istore C dX11_talks_112 rfl ?_
                exact g_sub (b_X11_talks_114 C R _ h) ⟨rfl, rfl, rfl, trivial⟩
              · refine g_iconst (v := (-1 : Int32)) C dX11_talks_105 (by decide) ?_
                refine g_goto (tgt := 110) C dX11_talks_106 (by decide) ?_
                refine g_istore_n C dX11_talks_110 rfl rfl ?_
                refine g_iconst (v := (0 : Int32)) C dX11_talks_111 (by decide) ?_
                refine g_istore C dX11_talks_112 rfl ?_
                exact g_sub (b_X11_talks_114 C R _ h) ⟨rfl, rfl, rfl, trivial⟩
            · refine g_iconst (v := (1 : Int32)) C dX11_talks_97 (by decide) ?_
              refine g_goto (tgt := 110) C dX11_talks_98 (by decide) ?_
              refine g_istore_n C dX11_talks_110 rfl rfl ?_
              refine g_iconst (v := (0 : Int32)) C dX11_talks_111 (by decide) ?_
              refine g_istore C dX11_talks_112 rfl ?_
              exact g_sub (b_X11_talks_114 C R _ h) ⟨rfl, rfl, rfl, trivial⟩
          · exact g_vret C R dX11_talks_80 (Option.some.inj h)
    · refine g_aload_n C dX11_talks_23 rfl rfl ?_
      refine g_iload_n C dX11_talks_24 rfl rfl ?_
      obtain ⟨r9, hr9, h⟩ := Option.bind_eq_some_iff.mp h
      refine call_X11_361 C dX11_talks_25 (by decide) (c_X11_isSeated E hr9) (by decide) rfl ?_
      refine g_if_eq (tgt := 45) C dX11_talks_28 (by decide) h (fun h => ?_) (fun h => ?_)
      · refine g_iinc (w := (1 : Int32)) C dX11_talks_45 rfl (by decide) rfl ?_
        refine g_goto (tgt := 13) C dX11_talks_48 (by decide) ?_
        exact g_sub (ih h) ⟨rfl, rfl, rfl, trivial⟩
      · refine g_aload_n C dX11_talks_31 rfl rfl ?_
        refine get_X11_35 C dX11_talks_32 (by decide) ?_
        refine g_bipush (v := (42 : Int32)) C dX11_talks_35 (by decide) ?_
        refine g_iload_n C dX11_talks_37 rfl rfl ?_
        refine g_iadd C dX11_talks_38 ?_
        refine g_aload_n C dX11_talks_39 rfl rfl ?_
        refine g_iload_n C dX11_talks_40 rfl rfl ?_
        obtain ⟨r10, hr10, h⟩ := Option.bind_eq_some_iff.mp h
        refine call_X11_371 C dX11_talks_41 (by decide) (c_X11_pulled E hr10) (by decide) rfl ?_
        obtain ⟨hb11, h⟩ := of_ite h
        refine st_55 (j := _) C dX11_talks_44 (by decide) hb11 rfl ?_
        refine g_iinc (w := (1 : Int32)) C dX11_talks_45 rfl (by decide) rfl ?_
        refine g_goto (tgt := 13) C dX11_talks_48 (by decide) ?_
        exact g_sub (ih h) ⟨rfl, rfl, rfl, trivial⟩
set_option maxRecDepth 20000 in
set_option maxHeartbeats 2000000 in
theorem c_X11_talks (E : wEnv) {x1 : Int32} {M : Mem} {q : Mem} (h : f_X11_talks x1 M = some q) : Mt E yX11_talks cX11_talks 5 none 3 [.ref (ad E 50 0), .int x1] M none q := by
  unfold f_X11_talks at h
  refine mt_intro (own := RX11) (lv0 := [(0, .ref (ad E 50 0)), (1, .int x1)]) (by decide) rfl rfl rfl (fun Y C R => ?_)
  refine g_aload_n C dX11_talks_0 rfl rfl ?_
  refine get_X11_35 C dX11_talks_1 (by decide) ?_
  refine g_bipush (v := (7 : Int32)) C dX11_talks_4 (by decide) ?_
  refine g_dup2 C dX11_talks_6 rfl rfl ?_
  refine ld_55 (j := 7) C dX11_talks_7 (by decide) (by decide) rfl ?_
  refine g_iconst (v := (1 : Int32)) C dX11_talks_8 (by decide) ?_
  refine g_iadd C dX11_talks_9 ?_
  refine st_55 (j := 7) C dX11_talks_10 (by decide) (by decide) rfl ?_
  refine g_iconst (v := (0 : Int32)) C dX11_talks_11 (by decide) ?_
  refine g_istore_n C dX11_talks_12 rfl rfl ?_
  exact g_sub (b_X11_talks_13 C R _ h) ⟨rfl, rfl, rfl, trivial⟩
noncomputable def f_X11_talksFor_2 (x1 : Int32) : Nat → Int32 → Mem → Option Mem
  | 0, _, _ => none
  | n + 1, x2, M =>
  if x2 < x1 then
    (f_X11_talks (1 : Int32) M).bind fun M1 =>
    f_X11_talksFor_2 x1 n (x2 + (1 : Int32)) M1
  else
    some M
noncomputable def f_X11_talksFor (x1 : Int32) (M : Mem) : Option Mem :=
  f_X11_talksFor_2 x1 FU (0 : Int32) M
set_option maxRecDepth 20000 in
set_option maxHeartbeats 2000000 in
theorem b_X11_talksFor_2 {E : wEnv} {Y : YT} (C : Cx E Y cX11_talksFor 3 RX11 4) {q : Mem} (R : Rx E Y none none q) {x1 : Int32} (n : Nat) : ∀ {x2 : Int32} {M : Mem} (_ : f_X11_talksFor_2 x1 n x2 M = some q), G E Y 3 M 2 [(0, .ref (ad E 50 0)), (1, .int x1), (2, .int x2)] [] := by
  induction n with
  | zero =>
    intro x2 M h
    cases (show none = some q from h)
  | succ n ih =>
    intro x2 M h
    rw [f_X11_talksFor_2] at h
    refine g_iload_n C dX11_talksFor_2 rfl rfl ?_
    refine g_iload_n C dX11_talksFor_3 rfl rfl ?_
    refine g_icmp_ge (tgt := 18) C dX11_talksFor_4 (by decide) h (fun h => ?_) (fun h => ?_)
    · exact g_vret C R dX11_talksFor_18 (Option.some.inj h)
    · refine g_aload_n C dX11_talksFor_7 rfl rfl ?_
      refine g_iconst (v := (1 : Int32)) C dX11_talksFor_8 (by decide) ?_
      obtain ⟨M1, hr1, h⟩ := Option.bind_eq_some_iff.mp h
      refine call_X11_377 C dX11_talksFor_9 (by decide) (c_X11_talks E hr1) (by decide) rfl ?_
      refine g_iinc (w := (1 : Int32)) C dX11_talksFor_12 rfl (by decide) rfl ?_
      refine g_goto (tgt := 2) C dX11_talksFor_15 (by decide) ?_
      exact g_sub (ih h) ⟨rfl, rfl, rfl, trivial⟩
set_option maxRecDepth 20000 in
set_option maxHeartbeats 2000000 in
theorem c_X11_talksFor (E : wEnv) {x1 : Int32} {M : Mem} {q : Mem} (h : f_X11_talksFor x1 M = some q) : Mt E yX11_talksFor cX11_talksFor 3 none 4 [.ref (ad E 50 0), .int x1] M none q := by
  unfold f_X11_talksFor at h
  refine mt_intro (own := RX11) (lv0 := [(0, .ref (ad E 50 0)), (1, .int x1)]) (by decide) rfl rfl rfl (fun Y C R => ?_)
  refine g_iconst (v := (0 : Int32)) C dX11_talksFor_0 (by decide) ?_
  refine g_istore_n C dX11_talksFor_1 rfl rfl ?_
  exact g_sub (b_X11_talksFor_2 C R _ h) ⟨rfl, rfl, rfl, trivial⟩
noncomputable def f_X11_judge (x0 : Int32) (x1 : Int32) (x2 : Int32) : Option Int32 :=
  if (x1 + x2) = 0 then
    some (0 : Int32)
  else
    if x0 = 0 then
      if (x1 + x2) < ((2 : Int32) * x1) then
        some (1 : Int32)
      else
        some (-1 : Int32)
    else
      if x0 = (1 : Int32) then
        if x1 = (x1 + x2) then
          some (1 : Int32)
        else
          if x2 = (x1 + x2) then
            some (-1 : Int32)
          else
            some (0 : Int32)
      else
        if ((3 : Int32) * x1) < ((2 : Int32) * (x1 + x2)) then
          if ((3 : Int32) * x2) < ((2 : Int32) * (x1 + x2)) then
            some (0 : Int32)
          else
            some (-1 : Int32)
        else
          some (1 : Int32)
set_option maxRecDepth 20000 in
set_option maxHeartbeats 2000000 in
theorem c_X11_judge (E : wEnv) {x0 : Int32} {x1 : Int32} {x2 : Int32} {M : Mem} {q : Int32} (h : f_X11_judge x0 x1 x2 = some q) : Mt E yX11_judge cX11_judge 4 (some .int) 0 [.int x0, .int x1, .int x2] M (some (.int q)) M := by
  unfold f_X11_judge at h
  refine mt_intro (own := RX11) (lv0 := [(0, .int x0), (1, .int x1), (2, .int x2)]) (by decide) rfl rfl rfl (fun Y C R => ?_)
  refine g_iload_n C dX11_judge_0 rfl rfl ?_
  refine g_iload_n C dX11_judge_1 rfl rfl ?_
  refine g_iadd C dX11_judge_2 ?_
  refine g_istore_n C dX11_judge_3 rfl rfl ?_
  refine g_iload_n C dX11_judge_4 rfl rfl ?_
  refine g_if_ne (tgt := 10) C dX11_judge_5 (by decide) h (fun h => ?_) (fun h => ?_)
  · refine g_iload_n C dX11_judge_10 rfl rfl ?_
    refine g_if_ne (tgt := 27) C dX11_judge_11 (by decide) h (fun h => ?_) (fun h => ?_)
    · refine g_iload_n C dX11_judge_27 rfl rfl ?_
      refine g_iconst (v := (1 : Int32)) C dX11_judge_28 (by decide) ?_
      refine g_icmp_ne (tgt := 52) C dX11_judge_29 (by decide) h (fun h => ?_) (fun h => ?_)
      · refine g_iconst (v := (3 : Int32)) C dX11_judge_52 (by decide) ?_
        refine g_iload_n C dX11_judge_53 rfl rfl ?_
        refine g_imul C dX11_judge_54 ?_
        refine g_iconst (v := (2 : Int32)) C dX11_judge_55 (by decide) ?_
        refine g_iload_n C dX11_judge_56 rfl rfl ?_
        refine g_imul C dX11_judge_57 ?_
        refine g_icmp_lt (tgt := 65) C dX11_judge_58 (by decide) h (fun h => ?_) (fun h => ?_)
        · refine g_iconst (v := (3 : Int32)) C dX11_judge_65 (by decide) ?_
          refine g_iload_n C dX11_judge_66 rfl rfl ?_
          refine g_imul C dX11_judge_67 ?_
          refine g_iconst (v := (2 : Int32)) C dX11_judge_68 (by decide) ?_
          refine g_iload_n C dX11_judge_69 rfl rfl ?_
          refine g_imul C dX11_judge_70 ?_
          refine g_icmp_lt (tgt := 78) C dX11_judge_71 (by decide) h (fun h => ?_) (fun h => ?_)
          · refine g_iconst (v := (0 : Int32)) C dX11_judge_78 (by decide) ?_
            exact g_iret C R dX11_judge_79 (Option.some.inj h) rfl
          · refine g_iconst (v := (-1 : Int32)) C dX11_judge_74 (by decide) ?_
            refine g_goto (tgt := 79) C dX11_judge_75 (by decide) ?_
            exact g_iret C R dX11_judge_79 (Option.some.inj h) rfl
        · refine g_iconst (v := (1 : Int32)) C dX11_judge_61 (by decide) ?_
          refine g_goto (tgt := 79) C dX11_judge_62 (by decide) ?_
          exact g_iret C R dX11_judge_79 (Option.some.inj h) rfl
      · refine g_iload_n C dX11_judge_32 rfl rfl ?_
        refine g_iload_n C dX11_judge_33 rfl rfl ?_
        refine g_icmp_ne (tgt := 41) C dX11_judge_34 (by decide) h (fun h => ?_) (fun h => ?_)
        · refine g_iload_n C dX11_judge_41 rfl rfl ?_
          refine g_iload_n C dX11_judge_42 rfl rfl ?_
          refine g_icmp_ne (tgt := 50) C dX11_judge_43 (by decide) h (fun h => ?_) (fun h => ?_)
          · refine g_iconst (v := (0 : Int32)) C dX11_judge_50 (by decide) ?_
            exact g_iret C R dX11_judge_51 (Option.some.inj h) rfl
          · refine g_iconst (v := (-1 : Int32)) C dX11_judge_46 (by decide) ?_
            refine g_goto (tgt := 51) C dX11_judge_47 (by decide) ?_
            exact g_iret C R dX11_judge_51 (Option.some.inj h) rfl
        · refine g_iconst (v := (1 : Int32)) C dX11_judge_37 (by decide) ?_
          refine g_goto (tgt := 51) C dX11_judge_38 (by decide) ?_
          exact g_iret C R dX11_judge_51 (Option.some.inj h) rfl
    · refine g_iconst (v := (2 : Int32)) C dX11_judge_14 (by decide) ?_
      refine g_iload_n C dX11_judge_15 rfl rfl ?_
      refine g_imul C dX11_judge_16 ?_
      refine g_iload_n C dX11_judge_17 rfl rfl ?_
      refine g_icmp_le (tgt := 25) C dX11_judge_18 (by decide) h (fun h => ?_) (fun h => ?_)
      · refine g_iconst (v := (-1 : Int32)) C dX11_judge_25 (by decide) ?_
        exact g_iret C R dX11_judge_26 (Option.some.inj h) rfl
      · refine g_iconst (v := (1 : Int32)) C dX11_judge_21 (by decide) ?_
        refine g_goto (tgt := 26) C dX11_judge_22 (by decide) ?_
        exact g_iret C R dX11_judge_26 (Option.some.inj h) rfl
  · refine g_iconst (v := (0 : Int32)) C dX11_judge_8 (by decide) ?_
    exact g_iret C R dX11_judge_9 (Option.some.inj h) rfl
noncomputable def f_X11_judged (M : Mem) : Option Int32 :=
  (f_X11_votesFor (1 : Int32) M).bind fun r1 =>
  (f_X11_votesFor (-1 : Int32) M).bind fun r2 =>
  (f_X11_judge (M.1 55 0 5) r1 r2).bind fun r3 =>
  some r3
set_option maxRecDepth 20000 in
set_option maxHeartbeats 2000000 in
theorem c_X11_judged (E : wEnv) {M : Mem} {q : Int32} (h : f_X11_judged M = some q) : Mt E yX11_judged cX11_judged 1 (some .int) 3 [.ref (ad E 50 0)] M (some (.int q)) M := by
  unfold f_X11_judged at h
  refine mt_intro (own := RX11) (lv0 := [(0, .ref (ad E 50 0))]) (by decide) rfl rfl rfl (fun Y C R => ?_)
  refine g_aload_n C dX11_judged_0 rfl rfl ?_
  refine get_X11_35 C dX11_judged_1 (by decide) ?_
  refine g_iconst (v := (5 : Int32)) C dX11_judged_4 (by decide) ?_
  refine ld_55 (j := 5) C dX11_judged_5 (by decide) (by decide) rfl ?_
  refine g_aload_n C dX11_judged_6 rfl rfl ?_
  refine g_iconst (v := (1 : Int32)) C dX11_judged_7 (by decide) ?_
  obtain ⟨r1, hr1, h⟩ := Option.bind_eq_some_iff.mp h
  refine call_X11_374 C dX11_judged_8 (by decide) (c_X11_votesFor E hr1) (by decide) rfl ?_
  refine g_aload_n C dX11_judged_11 rfl rfl ?_
  refine g_iconst (v := (-1 : Int32)) C dX11_judged_12 (by decide) ?_
  obtain ⟨r2, hr2, h⟩ := Option.bind_eq_some_iff.mp h
  refine call_X11_374 C dX11_judged_13 (by decide) (c_X11_votesFor E hr2) (by decide) rfl ?_
  obtain ⟨r3, hr3, h⟩ := Option.bind_eq_some_iff.mp h
  refine call_X11_380 C dX11_judged_16 (c_X11_judge E hr3) (by decide) rfl ?_
  exact g_iret C R dX11_judged_19 (Option.some.inj h) rfl
noncomputable def f_X11_talk (x1 : Int32) (M : Mem) : Option (Int32 × Mem) :=
  let M1 := sR M 50 0 (upd (M.1 50 0) 1 (0 : Int32))
  let M2 := sR M1 50 0 (upd (M1.1 50 0) 0 (0 : Int32))
  (f_X11_isIn x1.toInt64 (1 : Int64) (99 : Int64)).bind fun r3 =>
  if r3 = 0 then
    (f_X11_refuse (5 : Int32) M2).bind fun q7 =>
    some (q7.1, q7.2)
  else
    if (9999 : Int32) < ((M2.1 55 0 7) + x1) then
      (f_X11_refuse (7 : Int32) M2).bind fun q6 =>
      some (q6.1, q6.2)
    else
      (f_X11_talksFor x1 M2).bind fun M4 =>
      (f_X11_judged M4).bind fun r5 =>
      some (r5, M4)
set_option maxRecDepth 20000 in
set_option maxHeartbeats 2000000 in
theorem c_X11_talk (E : wEnv) {x1 : Int32} {M : Mem} {q : (Int32 × Mem)} (h : f_X11_talk x1 M = some q) : Mt E yX11_talk cX11_talk 2 (some .int) 5 [.ref (ad E 50 0), .int x1] M (some (.int q.1)) q.2 := by
  unfold f_X11_talk at h
  refine mt_intro (own := RX11) (lv0 := [(0, .ref (ad E 50 0)), (1, .int x1)]) (by decide) rfl rfl rfl (fun Y C R => ?_)
  refine g_aload_n C dX11_talk_0 rfl rfl ?_
  refine g_iconst (v := (0 : Int32)) C dX11_talk_1 (by decide) ?_
  refine put_X11_71 C dX11_talk_2 (by decide) ?_
  refine g_aload_n C dX11_talk_5 rfl rfl ?_
  refine g_iconst (v := (0 : Int32)) C dX11_talk_6 (by decide) ?_
  refine put_X11_74 C dX11_talk_7 (by decide) ?_
  refine g_iload_n C dX11_talk_10 rfl rfl ?_
  refine g_i2l C dX11_talk_11 ?_
  refine g_lconst (v := (1 : Int64)) C dX11_talk_12 (by decide) ?_
  refine g_ldc2 C dX11_talk_13 qc_X11_384 ?_
  obtain ⟨r3, hr3, h⟩ := Option.bind_eq_some_iff.mp h
  refine call_X11_106 C dX11_talk_16 (c_X11_isIn E hr3) (by decide) rfl ?_
  refine g_if_ne (tgt := 28) C dX11_talk_19 (by decide) h (fun h => ?_) (fun h => ?_)
  · refine g_aload_n C dX11_talk_28 rfl rfl ?_
    refine get_X11_35 C dX11_talk_29 (by decide) ?_
    refine g_bipush (v := (7 : Int32)) C dX11_talk_32 (by decide) ?_
    refine ld_55 (j := 7) C dX11_talk_34 (by decide) (by decide) rfl ?_
    refine g_iload_n C dX11_talk_35 rfl rfl ?_
    refine g_iadd C dX11_talk_36 ?_
    refine g_sipush (v := (9999 : Int32)) C dX11_talk_37 (by decide) ?_
    refine g_icmp_le (tgt := 50) C dX11_talk_40 (by decide) h (fun h => ?_) (fun h => ?_)
    · refine g_aload_n C dX11_talk_50 rfl rfl ?_
      refine g_iload_n C dX11_talk_51 rfl rfl ?_
      obtain ⟨M4, hr4, h⟩ := Option.bind_eq_some_iff.mp h
      refine call_X11_386 C dX11_talk_52 (by decide) (c_X11_talksFor E hr4) (by decide) rfl ?_
      refine g_aload_n C dX11_talk_55 rfl rfl ?_
      obtain ⟨r5, hr5, h⟩ := Option.bind_eq_some_iff.mp h
      refine call_X11_389 C dX11_talk_56 (by decide) (c_X11_judged E hr5) (by decide) rfl ?_
      exact g_iret C R dX11_talk_59 (fst_of h) (snd_of h)
    · refine g_aload_n C dX11_talk_43 rfl rfl ?_
      refine g_bipush (v := (7 : Int32)) C dX11_talk_44 (by decide) ?_
      obtain ⟨q6, hr6, h⟩ := Option.bind_eq_some_iff.mp h
      refine call_X11_340 C dX11_talk_46 (by decide) (c_X11_refuse E hr6) (by decide) rfl ?_
      exact g_iret C R dX11_talk_49 (fst_of h) (snd_of h)
  · refine g_aload_n C dX11_talk_22 rfl rfl ?_
    refine g_iconst (v := (5 : Int32)) C dX11_talk_23 (by decide) ?_
    obtain ⟨q7, hr7, h⟩ := Option.bind_eq_some_iff.mp h
    refine call_X11_340 C dX11_talk_24 (by decide) (c_X11_refuse E hr7) (by decide) rfl ?_
    exact g_iret C R dX11_talk_27 (fst_of h) (snd_of h)
noncomputable def f_X11_endsDay_123 (x1 : Int32) : Nat → Int32 → Mem → Option (Int32 × Mem)
  | 0, _, _ => none
  | n + 1, x2, M =>
  if x2 < (M.1 55 0 0) then
    if inb ((12 : Int32) + x2) 2375 = true then
     if inb ((42 : Int32) + x2) 2375 = true then
      let M8 := sR M 55 0 (upd (M.1 55 0) (((42 : Int32) + x2).toNatClampNeg) (M.1 55 0 (((12 : Int32) + x2).toNatClampNeg)))
      f_X11_endsDay_123 x1 n (x2 + (1 : Int32)) M8
     else none
    else none
  else
    some (x1, M)
noncomputable def f_X11_endsDay_77 (x1 : Int32) (M : Mem) : Option (Int32 × Mem) :=
  let M2 := sR M 55 0 (upd (M.1 55 0) 6 ((M.1 55 0 6) + (1 : Int32)))
  let M3 := sR M2 55 0 (upd (M2.1 55 0) 7 (0 : Int32))
  let M4 := sR M3 55 0 (upd (M3.1 55 0) 11 (0 : Int32))
  let M5 := sR M4 55 0 (upd (M4.1 55 0) 10 (((1 : Int32) <<< ((M4.1 55 0 0) &&& 31)) - (1 : Int32)))
  f_X11_endsDay_123 x1 FU (0 : Int32) M5
noncomputable def f_X11_endsDay_17 (x1 : Int32) : Nat → Int32 → Mem → Option (Int32 × Mem)
  | 0, _, _ => none
  | n + 1, x2, M =>
  if x2 < (M.1 55 0 3) then
    if inb ((194 : Int32) + x2) 2375 = true then
     (f_X11_growsOn x2 (M.1 55 0 8) M).bind fun r12 =>
     if inb ((194 : Int32) + x2) 2375 = true then
      let M14 := sR M 55 0 (upd (M.1 55 0) (((194 : Int32) + x2).toNatClampNeg) ((M.1 55 0 (((194 : Int32) + x2).toNatClampNeg)) + r12))
      f_X11_endsDay_17 x1 n (x2 + (1 : Int32)) M14
     else none
    else none
  else
    (f_X11_behindOf (M.1 55 0 8) x1 M).bind fun r9 =>
    let M10 := sR M 55 0 (upd (M.1 55 0) 8 r9)
    f_X11_endsDay_77 x1 M10
noncomputable def f_X11_endsDay (M : Mem) : Option (Int32 × Mem) :=
  (f_X11_judged M).bind fun r1 =>
  if (M.1 55 0 8) < 0 then
    f_X11_endsDay_77 r1 M
  else
    f_X11_endsDay_17 r1 FU (0 : Int32) M
set_option maxRecDepth 20000 in
set_option maxHeartbeats 2000000 in
theorem b_X11_endsDay_123 {E : wEnv} {Y : YT} (C : Cx E Y cX11_endsDay 3 RX11 4) {q : (Int32 × Mem)} (R : Rx E Y (some .int) (some (.int q.1)) q.2) {x1 : Int32} (n : Nat) : ∀ {x2 : Int32} {M : Mem} (_ : f_X11_endsDay_123 x1 n x2 M = some q), G E Y 3 M 123 [(0, .ref (ad E 50 0)), (1, .int x1), (2, .int x2)] [] := by
  induction n with
  | zero =>
    intro x2 M h
    cases (show none = some q from h)
  | succ n ih =>
    intro x2 M h
    rw [f_X11_endsDay_123] at h
    refine g_iload_n C dX11_endsDay_123 rfl rfl ?_
    refine g_aload_n C dX11_endsDay_124 rfl rfl ?_
    refine get_X11_35 C dX11_endsDay_125 (by decide) ?_
    refine g_iconst (v := (0 : Int32)) C dX11_endsDay_128 (by decide) ?_
    refine ld_55 (j := 0) C dX11_endsDay_129 (by decide) (by decide) rfl ?_
    refine g_icmp_ge (tgt := 157) C dX11_endsDay_130 (by decide) h (fun h => ?_) (fun h => ?_)
    · refine g_iload_n C dX11_endsDay_157 rfl rfl ?_
      exact g_iret C R dX11_endsDay_158 (fst_of h) (snd_of h)
    · refine g_aload_n C dX11_endsDay_133 rfl rfl ?_
      refine get_X11_35 C dX11_endsDay_134 (by decide) ?_
      refine g_bipush (v := (42 : Int32)) C dX11_endsDay_137 (by decide) ?_
      refine g_iload_n C dX11_endsDay_139 rfl rfl ?_
      refine g_iadd C dX11_endsDay_140 ?_
      refine g_aload_n C dX11_endsDay_141 rfl rfl ?_
      refine get_X11_35 C dX11_endsDay_142 (by decide) ?_
      refine g_bipush (v := (12 : Int32)) C dX11_endsDay_145 (by decide) ?_
      refine g_iload_n C dX11_endsDay_147 rfl rfl ?_
      refine g_iadd C dX11_endsDay_148 ?_
      obtain ⟨hb6, h⟩ := of_ite h
      refine ld_55 (j := _) C dX11_endsDay_149 (by decide) hb6 rfl ?_
      obtain ⟨hb7, h⟩ := of_ite h
      refine st_55 (j := _) C dX11_endsDay_150 (by decide) hb7 rfl ?_
      refine g_iinc (w := (1 : Int32)) C dX11_endsDay_151 rfl (by decide) rfl ?_
      refine g_goto (tgt := 123) C dX11_endsDay_154 (by decide) ?_
      exact g_sub (ih h) ⟨rfl, rfl, rfl, trivial⟩
set_option maxRecDepth 20000 in
set_option maxHeartbeats 2000000 in
theorem b_X11_endsDay_77 {E : wEnv} {Y : YT} (C : Cx E Y cX11_endsDay 3 RX11 4) {q : (Int32 × Mem)} (R : Rx E Y (some .int) (some (.int q.1)) q.2) {x1 : Int32} {M : Mem} (h : f_X11_endsDay_77 x1 M = some q) : G E Y 3 M 77 [(0, .ref (ad E 50 0)), (1, .int x1)] [] := by
  unfold f_X11_endsDay_77 at h
  refine g_aload_n C dX11_endsDay_77 rfl rfl ?_
  refine get_X11_35 C dX11_endsDay_78 (by decide) ?_
  refine g_bipush (v := (6 : Int32)) C dX11_endsDay_81 (by decide) ?_
  refine g_dup2 C dX11_endsDay_83 rfl rfl ?_
  refine ld_55 (j := 6) C dX11_endsDay_84 (by decide) (by decide) rfl ?_
  refine g_iconst (v := (1 : Int32)) C dX11_endsDay_85 (by decide) ?_
  refine g_iadd C dX11_endsDay_86 ?_
  refine st_55 (j := 6) C dX11_endsDay_87 (by decide) (by decide) rfl ?_
  refine g_aload_n C dX11_endsDay_88 rfl rfl ?_
  refine get_X11_35 C dX11_endsDay_89 (by decide) ?_
  refine g_bipush (v := (7 : Int32)) C dX11_endsDay_92 (by decide) ?_
  refine g_iconst (v := (0 : Int32)) C dX11_endsDay_94 (by decide) ?_
  refine st_55 (j := 7) C dX11_endsDay_95 (by decide) (by decide) rfl ?_
  refine g_aload_n C dX11_endsDay_96 rfl rfl ?_
  refine get_X11_35 C dX11_endsDay_97 (by decide) ?_
  refine g_bipush (v := (11 : Int32)) C dX11_endsDay_100 (by decide) ?_
  refine g_iconst (v := (0 : Int32)) C dX11_endsDay_102 (by decide) ?_
  refine st_55 (j := 11) C dX11_endsDay_103 (by decide) (by decide) rfl ?_
  refine g_aload_n C dX11_endsDay_104 rfl rfl ?_
  refine get_X11_35 C dX11_endsDay_105 (by decide) ?_
  refine g_bipush (v := (10 : Int32)) C dX11_endsDay_108 (by decide) ?_
  refine g_iconst (v := (1 : Int32)) C dX11_endsDay_110 (by decide) ?_
  refine g_aload_n C dX11_endsDay_111 rfl rfl ?_
  refine get_X11_35 C dX11_endsDay_112 (by decide) ?_
  refine g_iconst (v := (0 : Int32)) C dX11_endsDay_115 (by decide) ?_
  refine ld_55 (j := 0) C dX11_endsDay_116 (by decide) (by decide) rfl ?_
  refine g_ishl C dX11_endsDay_117 ?_
  refine g_iconst (v := (1 : Int32)) C dX11_endsDay_118 (by decide) ?_
  refine g_isub C dX11_endsDay_119 ?_
  refine st_55 (j := 10) C dX11_endsDay_120 (by decide) (by decide) rfl ?_
  refine g_iconst (v := (0 : Int32)) C dX11_endsDay_121 (by decide) ?_
  refine g_istore_n C dX11_endsDay_122 rfl rfl ?_
  exact g_sub (b_X11_endsDay_123 C R _ h) ⟨rfl, rfl, rfl, trivial⟩
set_option maxRecDepth 20000 in
set_option maxHeartbeats 2000000 in
theorem b_X11_endsDay_17 {E : wEnv} {Y : YT} (C : Cx E Y cX11_endsDay 3 RX11 4) {q : (Int32 × Mem)} (R : Rx E Y (some .int) (some (.int q.1)) q.2) {x1 : Int32} (n : Nat) : ∀ {x2 : Int32} {M : Mem} (_ : f_X11_endsDay_17 x1 n x2 M = some q), G E Y 3 M 17 [(0, .ref (ad E 50 0)), (1, .int x1), (2, .int x2)] [] := by
  induction n with
  | zero =>
    intro x2 M h
    cases (show none = some q from h)
  | succ n ih =>
    intro x2 M h
    rw [f_X11_endsDay_17] at h
    refine g_iload_n C dX11_endsDay_17 rfl rfl ?_
    refine g_aload_n C dX11_endsDay_18 rfl rfl ?_
    refine get_X11_35 C dX11_endsDay_19 (by decide) ?_
    refine g_iconst (v := (3 : Int32)) C dX11_endsDay_22 (by decide) ?_
    refine ld_55 (j := 3) C dX11_endsDay_23 (by decide) (by decide) rfl ?_
    refine g_icmp_ge (tgt := 58) C dX11_endsDay_24 (by decide) h (fun h => ?_) (fun h => ?_)
    · refine g_aload_n C dX11_endsDay_58 rfl rfl ?_
      refine get_X11_35 C dX11_endsDay_59 (by decide) ?_
      refine g_bipush (v := (8 : Int32)) C dX11_endsDay_62 (by decide) ?_
      refine g_aload_n C dX11_endsDay_64 rfl rfl ?_
      refine g_aload_n C dX11_endsDay_65 rfl rfl ?_
      refine get_X11_35 C dX11_endsDay_66 (by decide) ?_
      refine g_bipush (v := (8 : Int32)) C dX11_endsDay_69 (by decide) ?_
      refine ld_55 (j := 8) C dX11_endsDay_71 (by decide) (by decide) rfl ?_
      refine g_iload_n C dX11_endsDay_72 rfl rfl ?_
      obtain ⟨r9, hr9, h⟩ := Option.bind_eq_some_iff.mp h
      refine call_X11_349 C dX11_endsDay_73 (by decide) (c_X11_behindOf E hr9) (by decide) rfl ?_
      refine st_55 (j := 8) C dX11_endsDay_76 (by decide) (by decide) rfl ?_
      exact g_sub (b_X11_endsDay_77 C R h) ⟨rfl, rfl, trivial⟩
    · refine g_aload_n C dX11_endsDay_27 rfl rfl ?_
      refine get_X11_35 C dX11_endsDay_28 (by decide) ?_
      refine g_sipush (v := (194 : Int32)) C dX11_endsDay_31 (by decide) ?_
      refine g_iload_n C dX11_endsDay_34 rfl rfl ?_
      refine g_iadd C dX11_endsDay_35 ?_
      refine g_dup2 C dX11_endsDay_36 rfl rfl ?_
      obtain ⟨hb11, h⟩ := of_ite h
      refine ld_55 (j := _) C dX11_endsDay_37 (by decide) hb11 rfl ?_
      refine g_aload_n C dX11_endsDay_38 rfl rfl ?_
      refine g_iload_n C dX11_endsDay_39 rfl rfl ?_
      refine g_aload_n C dX11_endsDay_40 rfl rfl ?_
      refine get_X11_35 C dX11_endsDay_41 (by decide) ?_
      refine g_bipush (v := (8 : Int32)) C dX11_endsDay_44 (by decide) ?_
      refine ld_55 (j := 8) C dX11_endsDay_46 (by decide) (by decide) rfl ?_
      obtain ⟨r12, hr12, h⟩ := Option.bind_eq_some_iff.mp h
      refine call_X11_355 C dX11_endsDay_47 (by decide) (c_X11_growsOn E hr12) (by decide) rfl ?_
      refine g_iadd C dX11_endsDay_50 ?_
      obtain ⟨hb13, h⟩ := of_ite h
      refine st_55 (j := _) C dX11_endsDay_51 (by decide) hb13 rfl ?_
      refine g_iinc (w := (1 : Int32)) C dX11_endsDay_52 rfl (by decide) rfl ?_
      refine g_goto (tgt := 17) C dX11_endsDay_55 (by decide) ?_
      exact g_sub (ih h) ⟨rfl, rfl, rfl, trivial⟩
set_option maxRecDepth 20000 in
set_option maxHeartbeats 2000000 in
theorem c_X11_endsDay (E : wEnv) {M : Mem} {q : (Int32 × Mem)} (h : f_X11_endsDay M = some q) : Mt E yX11_endsDay cX11_endsDay 3 (some .int) 4 [.ref (ad E 50 0)] M (some (.int q.1)) q.2 := by
  unfold f_X11_endsDay at h
  refine mt_intro (own := RX11) (lv0 := [(0, .ref (ad E 50 0))]) (by decide) rfl rfl rfl (fun Y C R => ?_)
  refine g_aload_n C dX11_endsDay_0 rfl rfl ?_
  obtain ⟨r1, hr1, h⟩ := Option.bind_eq_some_iff.mp h
  refine call_X11_389 C dX11_endsDay_1 (by decide) (c_X11_judged E hr1) (by decide) rfl ?_
  refine g_istore_n C dX11_endsDay_4 rfl rfl ?_
  refine g_aload_n C dX11_endsDay_5 rfl rfl ?_
  refine get_X11_35 C dX11_endsDay_6 (by decide) ?_
  refine g_bipush (v := (8 : Int32)) C dX11_endsDay_9 (by decide) ?_
  refine ld_55 (j := 8) C dX11_endsDay_11 (by decide) (by decide) rfl ?_
  refine g_if_lt (tgt := 77) C dX11_endsDay_12 (by decide) h (fun h => ?_) (fun h => ?_)
  · exact g_sub (b_X11_endsDay_77 C R h) ⟨rfl, rfl, trivial⟩
  · refine g_iconst (v := (0 : Int32)) C dX11_endsDay_15 (by decide) ?_
    refine g_istore_n C dX11_endsDay_16 rfl rfl ?_
    exact g_sub (b_X11_endsDay_17 C R _ h) ⟨rfl, rfl, rfl, trivial⟩
noncomputable def f_X11_endDay (M : Mem) : Option (Int32 × Mem) :=
  let M1 := sR M 50 0 (upd (M.1 50 0) 1 (0 : Int32))
  let M2 := sR M1 50 0 (upd (M1.1 50 0) 0 (0 : Int32))
  if (M2.1 55 0 6) = (9999 : Int32) then
    (f_X11_refuse (7 : Int32) M2).bind fun q4 =>
    some (q4.1, q4.2)
  else
    (f_X11_endsDay M2).bind fun q3 =>
    some (q3.1, q3.2)
set_option maxRecDepth 20000 in
set_option maxHeartbeats 2000000 in
theorem c_X11_endDay (E : wEnv) {M : Mem} {q : (Int32 × Mem)} (h : f_X11_endDay M = some q) : Mt E yX11_endDay cX11_endDay 1 (some .int) 5 [.ref (ad E 50 0)] M (some (.int q.1)) q.2 := by
  unfold f_X11_endDay at h
  refine mt_intro (own := RX11) (lv0 := [(0, .ref (ad E 50 0))]) (by decide) rfl rfl rfl (fun Y C R => ?_)
  refine g_aload_n C dX11_endDay_0 rfl rfl ?_
  refine g_iconst (v := (0 : Int32)) C dX11_endDay_1 (by decide) ?_
  refine put_X11_71 C dX11_endDay_2 (by decide) ?_
  refine g_aload_n C dX11_endDay_5 rfl rfl ?_
  refine g_iconst (v := (0 : Int32)) C dX11_endDay_6 (by decide) ?_
  refine put_X11_74 C dX11_endDay_7 (by decide) ?_
  refine g_aload_n C dX11_endDay_10 rfl rfl ?_
  refine get_X11_35 C dX11_endDay_11 (by decide) ?_
  refine g_bipush (v := (6 : Int32)) C dX11_endDay_14 (by decide) ?_
  refine ld_55 (j := 6) C dX11_endDay_16 (by decide) (by decide) rfl ?_
  refine g_sipush (v := (9999 : Int32)) C dX11_endDay_17 (by decide) ?_
  refine g_icmp_ne (tgt := 32) C dX11_endDay_20 (by decide) h (fun h => ?_) (fun h => ?_)
  · refine g_aload_n C dX11_endDay_32 rfl rfl ?_
    obtain ⟨q3, hr3, h⟩ := Option.bind_eq_some_iff.mp h
    refine call_X11_392 C dX11_endDay_33 (by decide) (c_X11_endsDay E hr3) (by decide) rfl ?_
    exact g_iret C R dX11_endDay_36 (fst_of h) (snd_of h)
  · refine g_aload_n C dX11_endDay_23 rfl rfl ?_
    refine g_bipush (v := (7 : Int32)) C dX11_endDay_24 (by decide) ?_
    obtain ⟨q4, hr4, h⟩ := Option.bind_eq_some_iff.mp h
    refine call_X11_340 C dX11_endDay_26 (by decide) (c_X11_refuse E hr4) (by decide) rfl ?_
    refine g_goto (tgt := 36) C dX11_endDay_29 (by decide) ?_
    exact g_iret C R dX11_endDay_36 (fst_of h) (snd_of h)
noncomputable def f_X11_strikesOne (x1 : Int32) (M : Mem) : Option (Int32 × Mem) :=
  (f_X11_isSeated x1 M).bind fun r1 =>
  if r1 = 0 then
    some ((0 : Int32), M)
  else
    let M2 := sR M 55 0 (upd (M.1 55 0) 10 ((M.1 55 0 10) &&& (((1 : Int32) <<< (x1 &&& 31)) ^^^ (-1 : Int32))))
    some ((1 : Int32), M2)
set_option maxRecDepth 20000 in
set_option maxHeartbeats 2000000 in
theorem c_X11_strikesOne (E : wEnv) {x1 : Int32} {M : Mem} {q : (Int32 × Mem)} (h : f_X11_strikesOne x1 M = some q) : Mt E yX11_strikesOne cX11_strikesOne 2 (some .boolean) 2 [.ref (ad E 50 0), .int x1] M (some (.int q.1)) q.2 := by
  unfold f_X11_strikesOne at h
  refine mt_intro (own := RX11) (lv0 := [(0, .ref (ad E 50 0)), (1, .int x1)]) (by decide) rfl rfl rfl (fun Y C R => ?_)
  refine g_aload_n C dX11_strikesOne_0 rfl rfl ?_
  refine g_iload_n C dX11_strikesOne_1 rfl rfl ?_
  obtain ⟨r1, hr1, h⟩ := Option.bind_eq_some_iff.mp h
  refine call_X11_361 C dX11_strikesOne_2 (by decide) (c_X11_isSeated E hr1) (by decide) rfl ?_
  refine g_if_ne (tgt := 10) C dX11_strikesOne_5 (by decide) h (fun h => ?_) (fun h => ?_)
  · refine g_aload_n C dX11_strikesOne_10 rfl rfl ?_
    refine get_X11_35 C dX11_strikesOne_11 (by decide) ?_
    refine g_bipush (v := (10 : Int32)) C dX11_strikesOne_14 (by decide) ?_
    refine g_dup2 C dX11_strikesOne_16 rfl rfl ?_
    refine ld_55 (j := 10) C dX11_strikesOne_17 (by decide) (by decide) rfl ?_
    refine g_iconst (v := (1 : Int32)) C dX11_strikesOne_18 (by decide) ?_
    refine g_iload_n C dX11_strikesOne_19 rfl rfl ?_
    refine g_ishl C dX11_strikesOne_20 ?_
    refine g_iconst (v := (-1 : Int32)) C dX11_strikesOne_21 (by decide) ?_
    refine g_ixor C dX11_strikesOne_22 ?_
    refine g_iand C dX11_strikesOne_23 ?_
    refine st_55 (j := 10) C dX11_strikesOne_24 (by decide) (by decide) rfl ?_
    refine g_iconst (v := (1 : Int32)) C dX11_strikesOne_25 (by decide) ?_
    exact g_zret C R dX11_strikesOne_26 (fst_of h) (Or.inr rfl) (snd_of h)
  · refine g_iconst (v := (0 : Int32)) C dX11_strikesOne_8 (by decide) ?_
    exact g_zret C R dX11_strikesOne_9 (fst_of h) (Or.inl rfl) (snd_of h)
noncomputable def f_X11_seatsOne (x1 : Int32) (M : Mem) : Option (Int32 × Mem) :=
  (f_X11_isSeated x1 M).bind fun r1 =>
  if r1 = 0 then
    let M2 := sR M 55 0 (upd (M.1 55 0) 10 ((M.1 55 0 10) ||| ((1 : Int32) <<< (x1 &&& 31))))
    some ((1 : Int32), M2)
  else
    some ((0 : Int32), M)
set_option maxRecDepth 20000 in
set_option maxHeartbeats 2000000 in
theorem c_X11_seatsOne (E : wEnv) {x1 : Int32} {M : Mem} {q : (Int32 × Mem)} (h : f_X11_seatsOne x1 M = some q) : Mt E yX11_seatsOne cX11_seatsOne 2 (some .boolean) 2 [.ref (ad E 50 0), .int x1] M (some (.int q.1)) q.2 := by
  unfold f_X11_seatsOne at h
  refine mt_intro (own := RX11) (lv0 := [(0, .ref (ad E 50 0)), (1, .int x1)]) (by decide) rfl rfl rfl (fun Y C R => ?_)
  refine g_aload_n C dX11_seatsOne_0 rfl rfl ?_
  refine g_iload_n C dX11_seatsOne_1 rfl rfl ?_
  obtain ⟨r1, hr1, h⟩ := Option.bind_eq_some_iff.mp h
  refine call_X11_361 C dX11_seatsOne_2 (by decide) (c_X11_isSeated E hr1) (by decide) rfl ?_
  refine g_if_eq (tgt := 10) C dX11_seatsOne_5 (by decide) h (fun h => ?_) (fun h => ?_)
  · refine g_aload_n C dX11_seatsOne_10 rfl rfl ?_
    refine get_X11_35 C dX11_seatsOne_11 (by decide) ?_
    refine g_bipush (v := (10 : Int32)) C dX11_seatsOne_14 (by decide) ?_
    refine g_dup2 C dX11_seatsOne_16 rfl rfl ?_
    refine ld_55 (j := 10) C dX11_seatsOne_17 (by decide) (by decide) rfl ?_
    refine g_iconst (v := (1 : Int32)) C dX11_seatsOne_18 (by decide) ?_
    refine g_iload_n C dX11_seatsOne_19 rfl rfl ?_
    refine g_ishl C dX11_seatsOne_20 ?_
    refine g_ior C dX11_seatsOne_21 ?_
    refine st_55 (j := 10) C dX11_seatsOne_22 (by decide) (by decide) rfl ?_
    refine g_iconst (v := (1 : Int32)) C dX11_seatsOne_23 (by decide) ?_
    exact g_zret C R dX11_seatsOne_24 (fst_of h) (Or.inr rfl) (snd_of h)
  · refine g_iconst (v := (0 : Int32)) C dX11_seatsOne_8 (by decide) ?_
    exact g_zret C R dX11_seatsOne_9 (fst_of h) (Or.inl rfl) (snd_of h)
noncomputable def f_X11_strike (x1 : Int32) (M : Mem) : Option (Int32 × Mem) :=
  let M1 := sR M 50 0 (upd (M.1 50 0) 1 (0 : Int32))
  let M2 := sR M1 50 0 (upd (M1.1 50 0) 0 (0 : Int32))
  (f_X11_isJurorAt x1 M2).bind fun r3 =>
  if r3 = 0 then
    (f_X11_no (2 : Int32) M2).bind fun q6 =>
    if isB q6.1 = true then some (q6.1, q6.2) else none
  else
    (f_X11_strikesOne x1 M2).bind fun q4 =>
    if q4.1 = 0 then
      (f_X11_no (9 : Int32) q4.2).bind fun q5 =>
      if q5.1 = 0 then
        some ((0 : Int32), q5.2)
      else
        some ((1 : Int32), q5.2)
    else
      some ((1 : Int32), q4.2)
set_option maxRecDepth 20000 in
set_option maxHeartbeats 2000000 in
theorem c_X11_strike (E : wEnv) {x1 : Int32} {M : Mem} {q : (Int32 × Mem)} (h : f_X11_strike x1 M = some q) : Mt E yX11_strike cX11_strike 2 (some .boolean) 3 [.ref (ad E 50 0), .int x1] M (some (.int q.1)) q.2 := by
  unfold f_X11_strike at h
  refine mt_intro (own := RX11) (lv0 := [(0, .ref (ad E 50 0)), (1, .int x1)]) (by decide) rfl rfl rfl (fun Y C R => ?_)
  refine g_aload_n C dX11_strike_0 rfl rfl ?_
  refine g_iconst (v := (0 : Int32)) C dX11_strike_1 (by decide) ?_
  refine put_X11_71 C dX11_strike_2 (by decide) ?_
  refine g_aload_n C dX11_strike_5 rfl rfl ?_
  refine g_iconst (v := (0 : Int32)) C dX11_strike_6 (by decide) ?_
  refine put_X11_74 C dX11_strike_7 (by decide) ?_
  refine g_aload_n C dX11_strike_10 rfl rfl ?_
  refine g_iload_n C dX11_strike_11 rfl rfl ?_
  obtain ⟨r3, hr3, h⟩ := Option.bind_eq_some_iff.mp h
  refine call_X11_343 C dX11_strike_12 (by decide) (c_X11_isJurorAt E hr3) (by decide) rfl ?_
  refine g_if_ne (tgt := 24) C dX11_strike_15 (by decide) h (fun h => ?_) (fun h => ?_)
  · refine g_aload_n C dX11_strike_24 rfl rfl ?_
    refine g_iload_n C dX11_strike_25 rfl rfl ?_
    obtain ⟨q4, hr4, h⟩ := Option.bind_eq_some_iff.mp h
    refine call_X11_395 C dX11_strike_26 (by decide) (c_X11_strikesOne E hr4) (by decide) rfl ?_
    refine g_if_ne (tgt := 41) C dX11_strike_29 (by decide) h (fun h => ?_) (fun h => ?_)
    · refine g_iconst (v := (1 : Int32)) C dX11_strike_41 (by decide) ?_
      refine g_goto (tgt := 46) C dX11_strike_42 (by decide) ?_
      exact g_zret C R dX11_strike_46 (fst_of h) (Or.inr rfl) (snd_of h)
    · refine g_aload_n C dX11_strike_32 rfl rfl ?_
      refine g_bipush (v := (9 : Int32)) C dX11_strike_33 (by decide) ?_
      obtain ⟨q5, hr5, h⟩ := Option.bind_eq_some_iff.mp h
      refine call_X11_86 C dX11_strike_35 (by decide) (c_X11_no E hr5) (by decide) rfl ?_
      refine g_if_eq (tgt := 45) C dX11_strike_38 (by decide) h (fun h => ?_) (fun h => ?_)
      · refine g_iconst (v := (0 : Int32)) C dX11_strike_45 (by decide) ?_
        exact g_zret C R dX11_strike_46 (fst_of h) (Or.inl rfl) (snd_of h)
      · refine g_iconst (v := (1 : Int32)) C dX11_strike_41 (by decide) ?_
        refine g_goto (tgt := 46) C dX11_strike_42 (by decide) ?_
        exact g_zret C R dX11_strike_46 (fst_of h) (Or.inr rfl) (snd_of h)
  · refine g_aload_n C dX11_strike_18 rfl rfl ?_
    refine g_iconst (v := (2 : Int32)) C dX11_strike_19 (by decide) ?_
    obtain ⟨q6, hr6, h⟩ := Option.bind_eq_some_iff.mp h
    refine call_X11_86 C dX11_strike_20 (by decide) (c_X11_no E hr6) (by decide) rfl ?_
    obtain ⟨hz7, h⟩ := of_ite h
    exact g_zret C R dX11_strike_23 (fst_of h) (isB_of hz7) (snd_of h)
noncomputable def f_X11_seat (x1 : Int32) (M : Mem) : Option (Int32 × Mem) :=
  let M1 := sR M 50 0 (upd (M.1 50 0) 1 (0 : Int32))
  let M2 := sR M1 50 0 (upd (M1.1 50 0) 0 (0 : Int32))
  (f_X11_isJurorAt x1 M2).bind fun r3 =>
  if r3 = 0 then
    (f_X11_no (2 : Int32) M2).bind fun q6 =>
    if isB q6.1 = true then some (q6.1, q6.2) else none
  else
    (f_X11_seatsOne x1 M2).bind fun q4 =>
    if q4.1 = 0 then
      (f_X11_no (9 : Int32) q4.2).bind fun q5 =>
      if q5.1 = 0 then
        some ((0 : Int32), q5.2)
      else
        some ((1 : Int32), q5.2)
    else
      some ((1 : Int32), q4.2)
set_option maxRecDepth 20000 in
set_option maxHeartbeats 2000000 in
theorem c_X11_seat (E : wEnv) {x1 : Int32} {M : Mem} {q : (Int32 × Mem)} (h : f_X11_seat x1 M = some q) : Mt E yX11_seat cX11_seat 2 (some .boolean) 3 [.ref (ad E 50 0), .int x1] M (some (.int q.1)) q.2 := by
  unfold f_X11_seat at h
  refine mt_intro (own := RX11) (lv0 := [(0, .ref (ad E 50 0)), (1, .int x1)]) (by decide) rfl rfl rfl (fun Y C R => ?_)
  refine g_aload_n C dX11_seat_0 rfl rfl ?_
  refine g_iconst (v := (0 : Int32)) C dX11_seat_1 (by decide) ?_
  refine put_X11_71 C dX11_seat_2 (by decide) ?_
  refine g_aload_n C dX11_seat_5 rfl rfl ?_
  refine g_iconst (v := (0 : Int32)) C dX11_seat_6 (by decide) ?_
  refine put_X11_74 C dX11_seat_7 (by decide) ?_
  refine g_aload_n C dX11_seat_10 rfl rfl ?_
  refine g_iload_n C dX11_seat_11 rfl rfl ?_
  obtain ⟨r3, hr3, h⟩ := Option.bind_eq_some_iff.mp h
  refine call_X11_343 C dX11_seat_12 (by decide) (c_X11_isJurorAt E hr3) (by decide) rfl ?_
  refine g_if_ne (tgt := 24) C dX11_seat_15 (by decide) h (fun h => ?_) (fun h => ?_)
  · refine g_aload_n C dX11_seat_24 rfl rfl ?_
    refine g_iload_n C dX11_seat_25 rfl rfl ?_
    obtain ⟨q4, hr4, h⟩ := Option.bind_eq_some_iff.mp h
    refine call_X11_398 C dX11_seat_26 (by decide) (c_X11_seatsOne E hr4) (by decide) rfl ?_
    refine g_if_ne (tgt := 41) C dX11_seat_29 (by decide) h (fun h => ?_) (fun h => ?_)
    · refine g_iconst (v := (1 : Int32)) C dX11_seat_41 (by decide) ?_
      refine g_goto (tgt := 46) C dX11_seat_42 (by decide) ?_
      exact g_zret C R dX11_seat_46 (fst_of h) (Or.inr rfl) (snd_of h)
    · refine g_aload_n C dX11_seat_32 rfl rfl ?_
      refine g_bipush (v := (9 : Int32)) C dX11_seat_33 (by decide) ?_
      obtain ⟨q5, hr5, h⟩ := Option.bind_eq_some_iff.mp h
      refine call_X11_86 C dX11_seat_35 (by decide) (c_X11_no E hr5) (by decide) rfl ?_
      refine g_if_eq (tgt := 45) C dX11_seat_38 (by decide) h (fun h => ?_) (fun h => ?_)
      · refine g_iconst (v := (0 : Int32)) C dX11_seat_45 (by decide) ?_
        exact g_zret C R dX11_seat_46 (fst_of h) (Or.inl rfl) (snd_of h)
      · refine g_iconst (v := (1 : Int32)) C dX11_seat_41 (by decide) ?_
        refine g_goto (tgt := 46) C dX11_seat_42 (by decide) ?_
        exact g_zret C R dX11_seat_46 (fst_of h) (Or.inr rfl) (snd_of h)
  · refine g_aload_n C dX11_seat_18 rfl rfl ?_
    refine g_iconst (v := (2 : Int32)) C dX11_seat_19 (by decide) ?_
    obtain ⟨q6, hr6, h⟩ := Option.bind_eq_some_iff.mp h
    refine call_X11_86 C dX11_seat_20 (by decide) (c_X11_no E hr6) (by decide) rfl ?_
    obtain ⟨hz7, h⟩ := of_ite h
    exact g_zret C R dX11_seat_23 (fst_of h) (isB_of hz7) (snd_of h)
noncomputable def f_X11_bribesOne (x1 : Int32) (x2 : Int32) (M : Mem) : Option (Int32 × Mem) :=
  if inb ((32 : Int32) + x1) 2375 = true then
   if (9999 : Int32) < ((M.1 55 0 9) + (M.1 55 0 (((32 : Int32) + x1).toNatClampNeg))) then
     some ((7 : Int32), M)
   else
     (f_X11_isSeated x1 M).bind fun r2 =>
     if r2 = 0 then
       some ((9 : Int32), M)
     else
       if inb ((32 : Int32) + x1) 2375 = true then
        let M4 := sR M 55 0 (upd (M.1 55 0) 9 ((M.1 55 0 9) + (M.1 55 0 (((32 : Int32) + x1).toNatClampNeg))))
        if 0 < x2 then
          if inb ((42 : Int32) + x1) 2375 = true then
           let M8 := sR M4 55 0 (upd (M4.1 55 0) (((42 : Int32) + x1).toNatClampNeg) (99 : Int32))
           some ((0 : Int32), M8)
          else none
        else
          if inb ((42 : Int32) + x1) 2375 = true then
           let M6 := sR M4 55 0 (upd (M4.1 55 0) (((42 : Int32) + x1).toNatClampNeg) (-99 : Int32))
           some ((0 : Int32), M6)
          else none
       else none
  else none
set_option maxRecDepth 20000 in
set_option maxHeartbeats 2000000 in
theorem c_X11_bribesOne (E : wEnv) {x1 : Int32} {x2 : Int32} {M : Mem} {q : (Int32 × Mem)} (h : f_X11_bribesOne x1 x2 M = some q) : Mt E yX11_bribesOne cX11_bribesOne 3 (some .int) 2 [.ref (ad E 50 0), .int x1, .int x2] M (some (.int q.1)) q.2 := by
  unfold f_X11_bribesOne at h
  refine mt_intro (own := RX11) (lv0 := [(0, .ref (ad E 50 0)), (1, .int x1), (2, .int x2)]) (by decide) rfl rfl rfl (fun Y C R => ?_)
  refine g_aload_n C dX11_bribesOne_0 rfl rfl ?_
  refine get_X11_35 C dX11_bribesOne_1 (by decide) ?_
  refine g_bipush (v := (9 : Int32)) C dX11_bribesOne_4 (by decide) ?_
  refine ld_55 (j := 9) C dX11_bribesOne_6 (by decide) (by decide) rfl ?_
  refine g_aload_n C dX11_bribesOne_7 rfl rfl ?_
  refine get_X11_35 C dX11_bribesOne_8 (by decide) ?_
  refine g_bipush (v := (32 : Int32)) C dX11_bribesOne_11 (by decide) ?_
  refine g_iload_n C dX11_bribesOne_13 rfl rfl ?_
  refine g_iadd C dX11_bribesOne_14 ?_
  obtain ⟨hb1, h⟩ := of_ite h
  refine ld_55 (j := _) C dX11_bribesOne_15 (by decide) hb1 rfl ?_
  refine g_iadd C dX11_bribesOne_16 ?_
  refine g_sipush (v := (9999 : Int32)) C dX11_bribesOne_17 (by decide) ?_
  refine g_icmp_le (tgt := 26) C dX11_bribesOne_20 (by decide) h (fun h => ?_) (fun h => ?_)
  · refine g_aload_n C dX11_bribesOne_26 rfl rfl ?_
    refine g_iload_n C dX11_bribesOne_27 rfl rfl ?_
    obtain ⟨r2, hr2, h⟩ := Option.bind_eq_some_iff.mp h
    refine call_X11_361 C dX11_bribesOne_28 (by decide) (c_X11_isSeated E hr2) (by decide) rfl ?_
    refine g_if_ne (tgt := 37) C dX11_bribesOne_31 (by decide) h (fun h => ?_) (fun h => ?_)
    · refine g_aload_n C dX11_bribesOne_37 rfl rfl ?_
      refine get_X11_35 C dX11_bribesOne_38 (by decide) ?_
      refine g_bipush (v := (9 : Int32)) C dX11_bribesOne_41 (by decide) ?_
      refine g_dup2 C dX11_bribesOne_43 rfl rfl ?_
      refine ld_55 (j := 9) C dX11_bribesOne_44 (by decide) (by decide) rfl ?_
      refine g_aload_n C dX11_bribesOne_45 rfl rfl ?_
      refine get_X11_35 C dX11_bribesOne_46 (by decide) ?_
      refine g_bipush (v := (32 : Int32)) C dX11_bribesOne_49 (by decide) ?_
      refine g_iload_n C dX11_bribesOne_51 rfl rfl ?_
      refine g_iadd C dX11_bribesOne_52 ?_
      obtain ⟨hb3, h⟩ := of_ite h
      refine ld_55 (j := _) C dX11_bribesOne_53 (by decide) hb3 rfl ?_
      refine g_iadd C dX11_bribesOne_54 ?_
      refine st_55 (j := 9) C dX11_bribesOne_55 (by decide) (by decide) rfl ?_
      refine g_aload_n C dX11_bribesOne_56 rfl rfl ?_
      refine get_X11_35 C dX11_bribesOne_57 (by decide) ?_
      refine g_bipush (v := (42 : Int32)) C dX11_bribesOne_60 (by decide) ?_
      refine g_iload_n C dX11_bribesOne_62 rfl rfl ?_
      refine g_iadd C dX11_bribesOne_63 ?_
      refine g_iload_n C dX11_bribesOne_64 rfl rfl ?_
      refine g_if_le (tgt := 73) C dX11_bribesOne_65 (by decide) h (fun h => ?_) (fun h => ?_)
      · refine g_bipush (v := (-99 : Int32)) C dX11_bribesOne_73 (by decide) ?_
        obtain ⟨hb5, h⟩ := of_ite h
        refine st_55 (j := _) C dX11_bribesOne_75 (by decide) hb5 rfl ?_
        refine g_iconst (v := (0 : Int32)) C dX11_bribesOne_76 (by decide) ?_
        exact g_iret C R dX11_bribesOne_77 (fst_of h) (snd_of h)
      · refine g_bipush (v := (99 : Int32)) C dX11_bribesOne_68 (by decide) ?_
        refine g_goto (tgt := 75) C dX11_bribesOne_70 (by decide) ?_
        obtain ⟨hb7, h⟩ := of_ite h
        refine st_55 (j := _) C dX11_bribesOne_75 (by decide) hb7 rfl ?_
        refine g_iconst (v := (0 : Int32)) C dX11_bribesOne_76 (by decide) ?_
        exact g_iret C R dX11_bribesOne_77 (fst_of h) (snd_of h)
    · refine g_bipush (v := (9 : Int32)) C dX11_bribesOne_34 (by decide) ?_
      exact g_iret C R dX11_bribesOne_36 (fst_of h) (snd_of h)
  · refine g_bipush (v := (7 : Int32)) C dX11_bribesOne_23 (by decide) ?_
    exact g_iret C R dX11_bribesOne_25 (fst_of h) (snd_of h)
noncomputable def f_X11_bribe_40 (x1 : Int32) (x2 : Int32) (M : Mem) : Option (Int32 × Mem) :=
  (f_X11_bribesOne x1 x2 M).bind fun q4 =>
  if 0 < q4.1 then
    (f_X11_refuse q4.1 q4.2).bind fun q5 =>
    some (q5.1, q5.2)
  else
    some ((q4.2.1 55 0 9), q4.2)
noncomputable def f_X11_bribe (x1 : Int32) (x2 : Int32) (M : Mem) : Option (Int32 × Mem) :=
  let M1 := sR M 50 0 (upd (M.1 50 0) 1 (0 : Int32))
  let M2 := sR M1 50 0 (upd (M1.1 50 0) 0 (0 : Int32))
  (f_X11_isJurorAt x1 M2).bind fun r3 =>
  if r3 = 0 then
    (f_X11_refuse (2 : Int32) M2).bind fun q7 =>
    some (q7.1, q7.2)
  else
    if x2 = (1 : Int32) then
      f_X11_bribe_40 x1 x2 M2
    else
      if x2 = (-1 : Int32) then
        f_X11_bribe_40 x1 x2 M2
      else
        (f_X11_refuse (5 : Int32) M2).bind fun q6 =>
        some (q6.1, q6.2)
set_option maxRecDepth 20000 in
set_option maxHeartbeats 2000000 in
theorem b_X11_bribe_40 {E : wEnv} {Y : YT} (C : Cx E Y cX11_bribe 4 RX11 3) {q : (Int32 × Mem)} (R : Rx E Y (some .int) (some (.int q.1)) q.2) {x1 : Int32} {x2 : Int32} {M : Mem} (h : f_X11_bribe_40 x1 x2 M = some q) : G E Y 4 M 40 [(0, .ref (ad E 50 0)), (1, .int x1), (2, .int x2)] [] := by
  unfold f_X11_bribe_40 at h
  refine g_aload_n C dX11_bribe_40 rfl rfl ?_
  refine g_iload_n C dX11_bribe_41 rfl rfl ?_
  refine g_iload_n C dX11_bribe_42 rfl rfl ?_
  obtain ⟨q4, hr4, h⟩ := Option.bind_eq_some_iff.mp h
  refine call_X11_401 C dX11_bribe_43 (by decide) (c_X11_bribesOne E hr4) (by decide) rfl ?_
  refine g_istore_n C dX11_bribe_46 rfl rfl ?_
  refine g_iload_n C dX11_bribe_47 rfl rfl ?_
  refine g_if_le (tgt := 59) C dX11_bribe_48 (by decide) h (fun h => ?_) (fun h => ?_)
  · refine g_aload_n C dX11_bribe_59 rfl rfl ?_
    refine get_X11_35 C dX11_bribe_60 (by decide) ?_
    refine g_bipush (v := (9 : Int32)) C dX11_bribe_63 (by decide) ?_
    refine ld_55 (j := 9) C dX11_bribe_65 (by decide) (by decide) rfl ?_
    exact g_iret C R dX11_bribe_66 (fst_of h) (snd_of h)
  · refine g_aload_n C dX11_bribe_51 rfl rfl ?_
    refine g_iload_n C dX11_bribe_52 rfl rfl ?_
    obtain ⟨q5, hr5, h⟩ := Option.bind_eq_some_iff.mp h
    refine call_X11_340 C dX11_bribe_53 (by decide) (c_X11_refuse E hr5) (by decide) rfl ?_
    refine g_goto (tgt := 66) C dX11_bribe_56 (by decide) ?_
    exact g_iret C R dX11_bribe_66 (fst_of h) (snd_of h)
set_option maxRecDepth 20000 in
set_option maxHeartbeats 2000000 in
theorem c_X11_bribe (E : wEnv) {x1 : Int32} {x2 : Int32} {M : Mem} {q : (Int32 × Mem)} (h : f_X11_bribe x1 x2 M = some q) : Mt E yX11_bribe cX11_bribe 4 (some .int) 3 [.ref (ad E 50 0), .int x1, .int x2] M (some (.int q.1)) q.2 := by
  unfold f_X11_bribe at h
  refine mt_intro (own := RX11) (lv0 := [(0, .ref (ad E 50 0)), (1, .int x1), (2, .int x2)]) (by decide) rfl rfl rfl (fun Y C R => ?_)
  refine g_aload_n C dX11_bribe_0 rfl rfl ?_
  refine g_iconst (v := (0 : Int32)) C dX11_bribe_1 (by decide) ?_
  refine put_X11_71 C dX11_bribe_2 (by decide) ?_
  refine g_aload_n C dX11_bribe_5 rfl rfl ?_
  refine g_iconst (v := (0 : Int32)) C dX11_bribe_6 (by decide) ?_
  refine put_X11_74 C dX11_bribe_7 (by decide) ?_
  refine g_aload_n C dX11_bribe_10 rfl rfl ?_
  refine g_iload_n C dX11_bribe_11 rfl rfl ?_
  obtain ⟨r3, hr3, h⟩ := Option.bind_eq_some_iff.mp h
  refine call_X11_343 C dX11_bribe_12 (by decide) (c_X11_isJurorAt E hr3) (by decide) rfl ?_
  refine g_if_ne (tgt := 24) C dX11_bribe_15 (by decide) h (fun h => ?_) (fun h => ?_)
  · refine g_iload_n C dX11_bribe_24 rfl rfl ?_
    refine g_iconst (v := (1 : Int32)) C dX11_bribe_25 (by decide) ?_
    refine g_icmp_eq (tgt := 40) C dX11_bribe_26 (by decide) h (fun h => ?_) (fun h => ?_)
    · exact g_sub (b_X11_bribe_40 C R h) ⟨rfl, rfl, rfl, trivial⟩
    · refine g_iload_n C dX11_bribe_29 rfl rfl ?_
      refine g_iconst (v := (-1 : Int32)) C dX11_bribe_30 (by decide) ?_
      refine g_icmp_eq (tgt := 40) C dX11_bribe_31 (by decide) h (fun h => ?_) (fun h => ?_)
      · exact g_sub (b_X11_bribe_40 C R h) ⟨rfl, rfl, rfl, trivial⟩
      · refine g_aload_n C dX11_bribe_34 rfl rfl ?_
        refine g_iconst (v := (5 : Int32)) C dX11_bribe_35 (by decide) ?_
        obtain ⟨q6, hr6, h⟩ := Option.bind_eq_some_iff.mp h
        refine call_X11_340 C dX11_bribe_36 (by decide) (c_X11_refuse E hr6) (by decide) rfl ?_
        exact g_iret C R dX11_bribe_39 (fst_of h) (snd_of h)
  · refine g_aload_n C dX11_bribe_18 rfl rfl ?_
    refine g_iconst (v := (2 : Int32)) C dX11_bribe_19 (by decide) ?_
    obtain ⟨q7, hr7, h⟩ := Option.bind_eq_some_iff.mp h
    refine call_X11_340 C dX11_bribe_20 (by decide) (c_X11_refuse E hr7) (by decide) rfl ?_
    exact g_iret C R dX11_bribe_23 (fst_of h) (snd_of h)
noncomputable def f_X11_lean (x1 : Int32) (x2 : Int32) (M : Mem) : Option (Int32 × Mem) :=
  let M1 := sR M 50 0 (upd (M.1 50 0) 1 (0 : Int32))
  let M2 := sR M1 50 0 (upd (M1.1 50 0) 0 (0 : Int32))
  (f_X11_isJurorAt x1 M2).bind fun r3 =>
  if r3 = 0 then
    (f_X11_no (2 : Int32) M2).bind fun q9 =>
    if isB q9.1 = true then some (q9.1, q9.2) else none
  else
    (f_X11_isIn x2.toInt64 (-99 : Int64) (99 : Int64)).bind fun r4 =>
    if r4 = 0 then
      (f_X11_no (5 : Int32) M2).bind fun q7 =>
      if isB q7.1 = true then some (q7.1, q7.2) else none
    else
      if inb ((42 : Int32) + x1) 2375 = true then
       let M6 := sR M2 55 0 (upd (M2.1 55 0) (((42 : Int32) + x1).toNatClampNeg) x2)
       some ((1 : Int32), M6)
      else none
set_option maxRecDepth 20000 in
set_option maxHeartbeats 2000000 in
theorem c_X11_lean (E : wEnv) {x1 : Int32} {x2 : Int32} {M : Mem} {q : (Int32 × Mem)} (h : f_X11_lean x1 x2 M = some q) : Mt E yX11_lean cX11_lean 3 (some .boolean) 2 [.ref (ad E 50 0), .int x1, .int x2] M (some (.int q.1)) q.2 := by
  unfold f_X11_lean at h
  refine mt_intro (own := RX11) (lv0 := [(0, .ref (ad E 50 0)), (1, .int x1), (2, .int x2)]) (by decide) rfl rfl rfl (fun Y C R => ?_)
  refine g_aload_n C dX11_lean_0 rfl rfl ?_
  refine g_iconst (v := (0 : Int32)) C dX11_lean_1 (by decide) ?_
  refine put_X11_71 C dX11_lean_2 (by decide) ?_
  refine g_aload_n C dX11_lean_5 rfl rfl ?_
  refine g_iconst (v := (0 : Int32)) C dX11_lean_6 (by decide) ?_
  refine put_X11_74 C dX11_lean_7 (by decide) ?_
  refine g_aload_n C dX11_lean_10 rfl rfl ?_
  refine g_iload_n C dX11_lean_11 rfl rfl ?_
  obtain ⟨r3, hr3, h⟩ := Option.bind_eq_some_iff.mp h
  refine call_X11_343 C dX11_lean_12 (by decide) (c_X11_isJurorAt E hr3) (by decide) rfl ?_
  refine g_if_ne (tgt := 24) C dX11_lean_15 (by decide) h (fun h => ?_) (fun h => ?_)
  · refine g_iload_n C dX11_lean_24 rfl rfl ?_
    refine g_i2l C dX11_lean_25 ?_
    refine g_ldc2 C dX11_lean_26 qc_X11_404 ?_
    refine g_ldc2 C dX11_lean_29 qc_X11_384 ?_
    obtain ⟨r4, hr4, h⟩ := Option.bind_eq_some_iff.mp h
    refine call_X11_106 C dX11_lean_32 (c_X11_isIn E hr4) (by decide) rfl ?_
    refine g_if_ne (tgt := 44) C dX11_lean_35 (by decide) h (fun h => ?_) (fun h => ?_)
    · refine g_aload_n C dX11_lean_44 rfl rfl ?_
      refine get_X11_35 C dX11_lean_45 (by decide) ?_
      refine g_bipush (v := (42 : Int32)) C dX11_lean_48 (by decide) ?_
      refine g_iload_n C dX11_lean_50 rfl rfl ?_
      refine g_iadd C dX11_lean_51 ?_
      refine g_iload_n C dX11_lean_52 rfl rfl ?_
      obtain ⟨hb5, h⟩ := of_ite h
      refine st_55 (j := _) C dX11_lean_53 (by decide) hb5 rfl ?_
      refine g_iconst (v := (1 : Int32)) C dX11_lean_54 (by decide) ?_
      exact g_zret C R dX11_lean_55 (fst_of h) (Or.inr rfl) (snd_of h)
    · refine g_aload_n C dX11_lean_38 rfl rfl ?_
      refine g_iconst (v := (5 : Int32)) C dX11_lean_39 (by decide) ?_
      obtain ⟨q7, hr7, h⟩ := Option.bind_eq_some_iff.mp h
      refine call_X11_86 C dX11_lean_40 (by decide) (c_X11_no E hr7) (by decide) rfl ?_
      obtain ⟨hz8, h⟩ := of_ite h
      exact g_zret C R dX11_lean_43 (fst_of h) (isB_of hz8) (snd_of h)
  · refine g_aload_n C dX11_lean_18 rfl rfl ?_
    refine g_iconst (v := (2 : Int32)) C dX11_lean_19 (by decide) ?_
    obtain ⟨q9, hr9, h⟩ := Option.bind_eq_some_iff.mp h
    refine call_X11_86 C dX11_lean_20 (by decide) (c_X11_no E hr9) (by decide) rfl ?_
    obtain ⟨hz10, h⟩ := of_ite h
    exact g_zret C R dX11_lean_23 (fst_of h) (isB_of hz10) (snd_of h)
noncomputable def f_X11_votes (x1 : Int32) (M : Mem) : Option (Int32 × Mem) :=
  let M1 := sR M 50 0 (upd (M.1 50 0) 1 (0 : Int32))
  let M2 := sR M1 50 0 (upd (M1.1 50 0) 0 (0 : Int32))
  (f_X11_isIn x1.toInt64 (0 : Int64) (1 : Int64)).bind fun r3 =>
  if r3 = 0 then
    (f_X11_refuse (5 : Int32) M2).bind fun q4 =>
    some (q4.1, q4.2)
  else
    if x1 = 0 then
      (f_X11_votesFor (1 : Int32) M2).bind fun r6 =>
      some (r6, M2)
    else
      (f_X11_votesFor (-1 : Int32) M2).bind fun r5 =>
      some (r5, M2)
set_option maxRecDepth 20000 in
set_option maxHeartbeats 2000000 in
theorem c_X11_votes (E : wEnv) {x1 : Int32} {M : Mem} {q : (Int32 × Mem)} (h : f_X11_votes x1 M = some q) : Mt E yX11_votes cX11_votes 2 (some .int) 3 [.ref (ad E 50 0), .int x1] M (some (.int q.1)) q.2 := by
  unfold f_X11_votes at h
  refine mt_intro (own := RX11) (lv0 := [(0, .ref (ad E 50 0)), (1, .int x1)]) (by decide) rfl rfl rfl (fun Y C R => ?_)
  refine g_aload_n C dX11_votes_0 rfl rfl ?_
  refine g_iconst (v := (0 : Int32)) C dX11_votes_1 (by decide) ?_
  refine put_X11_71 C dX11_votes_2 (by decide) ?_
  refine g_aload_n C dX11_votes_5 rfl rfl ?_
  refine g_iconst (v := (0 : Int32)) C dX11_votes_6 (by decide) ?_
  refine put_X11_74 C dX11_votes_7 (by decide) ?_
  refine g_iload_n C dX11_votes_10 rfl rfl ?_
  refine g_i2l C dX11_votes_11 ?_
  refine g_lconst (v := (0 : Int64)) C dX11_votes_12 (by decide) ?_
  refine g_lconst (v := (1 : Int64)) C dX11_votes_13 (by decide) ?_
  obtain ⟨r3, hr3, h⟩ := Option.bind_eq_some_iff.mp h
  refine call_X11_106 C dX11_votes_14 (c_X11_isIn E hr3) (by decide) rfl ?_
  refine g_if_eq (tgt := 36) C dX11_votes_17 (by decide) h (fun h => ?_) (fun h => ?_)
  · refine g_aload_n C dX11_votes_36 rfl rfl ?_
    refine g_iconst (v := (5 : Int32)) C dX11_votes_37 (by decide) ?_
    obtain ⟨q4, hr4, h⟩ := Option.bind_eq_some_iff.mp h
    refine call_X11_340 C dX11_votes_38 (by decide) (c_X11_refuse E hr4) (by decide) rfl ?_
    exact g_iret C R dX11_votes_41 (fst_of h) (snd_of h)
  · refine g_aload_n C dX11_votes_20 rfl rfl ?_
    refine g_iload_n C dX11_votes_21 rfl rfl ?_
    refine g_if_ne (tgt := 29) C dX11_votes_22 (by decide) h (fun h => ?_) (fun h => ?_)
    · refine g_iconst (v := (-1 : Int32)) C dX11_votes_29 (by decide) ?_
      obtain ⟨r5, hr5, h⟩ := Option.bind_eq_some_iff.mp h
      refine call_X11_374 C dX11_votes_30 (by decide) (c_X11_votesFor E hr5) (by decide) rfl ?_
      refine g_goto (tgt := 41) C dX11_votes_33 (by decide) ?_
      exact g_iret C R dX11_votes_41 (fst_of h) (snd_of h)
    · refine g_iconst (v := (1 : Int32)) C dX11_votes_25 (by decide) ?_
      refine g_goto (tgt := 30) C dX11_votes_26 (by decide) ?_
      obtain ⟨r6, hr6, h⟩ := Option.bind_eq_some_iff.mp h
      refine call_X11_374 C dX11_votes_30 (by decide) (c_X11_votesFor E hr6) (by decide) rfl ?_
      refine g_goto (tgt := 41) C dX11_votes_33 (by decide) ?_
      exact g_iret C R dX11_votes_41 (fst_of h) (snd_of h)
noncomputable def f_X11_verdict (M : Mem) : Option (Int32 × Mem) :=
  let M1 := sR M 50 0 (upd (M.1 50 0) 1 (0 : Int32))
  let M2 := sR M1 50 0 (upd (M1.1 50 0) 0 (0 : Int32))
  (f_X11_judged M2).bind fun r3 =>
  some (r3, M2)
set_option maxRecDepth 20000 in
set_option maxHeartbeats 2000000 in
theorem c_X11_verdict (E : wEnv) {M : Mem} {q : (Int32 × Mem)} (h : f_X11_verdict M = some q) : Mt E yX11_verdict cX11_verdict 1 (some .int) 4 [.ref (ad E 50 0)] M (some (.int q.1)) q.2 := by
  unfold f_X11_verdict at h
  refine mt_intro (own := RX11) (lv0 := [(0, .ref (ad E 50 0))]) (by decide) rfl rfl rfl (fun Y C R => ?_)
  refine g_aload_n C dX11_verdict_0 rfl rfl ?_
  refine g_iconst (v := (0 : Int32)) C dX11_verdict_1 (by decide) ?_
  refine put_X11_71 C dX11_verdict_2 (by decide) ?_
  refine g_aload_n C dX11_verdict_5 rfl rfl ?_
  refine g_iconst (v := (0 : Int32)) C dX11_verdict_6 (by decide) ?_
  refine put_X11_74 C dX11_verdict_7 (by decide) ?_
  refine g_aload_n C dX11_verdict_10 rfl rfl ?_
  obtain ⟨r3, hr3, h⟩ := Option.bind_eq_some_iff.mp h
  refine call_X11_389 C dX11_verdict_11 (by decide) (c_X11_judged E hr3) (by decide) rfl ?_
  exact g_iret C R dX11_verdict_14 (fst_of h) (snd_of h)
noncomputable def f_X11_verdictBy (x1 : Int32) (M : Mem) : Option (Int32 × Mem) :=
  let M1 := sR M 50 0 (upd (M.1 50 0) 1 (0 : Int32))
  let M2 := sR M1 50 0 (upd (M1.1 50 0) 0 (0 : Int32))
  (f_X11_isIn x1.toInt64 (0 : Int64) (2 : Int64)).bind fun r3 =>
  if r3 = 0 then
    (f_X11_refuse (5 : Int32) M2).bind fun q4 =>
    some (q4.1, q4.2)
  else
    (f_X11_votesFor (1 : Int32) M2).bind fun r5 =>
    (f_X11_votesFor (-1 : Int32) M2).bind fun r6 =>
    (f_X11_judge x1 r5 r6).bind fun r7 =>
    some (r7, M2)
set_option maxRecDepth 20000 in
set_option maxHeartbeats 2000000 in
theorem c_X11_verdictBy (E : wEnv) {x1 : Int32} {M : Mem} {q : (Int32 × Mem)} (h : f_X11_verdictBy x1 M = some q) : Mt E yX11_verdictBy cX11_verdictBy 2 (some .int) 3 [.ref (ad E 50 0), .int x1] M (some (.int q.1)) q.2 := by
  unfold f_X11_verdictBy at h
  refine mt_intro (own := RX11) (lv0 := [(0, .ref (ad E 50 0)), (1, .int x1)]) (by decide) rfl rfl rfl (fun Y C R => ?_)
  refine g_aload_n C dX11_verdictBy_0 rfl rfl ?_
  refine g_iconst (v := (0 : Int32)) C dX11_verdictBy_1 (by decide) ?_
  refine put_X11_71 C dX11_verdictBy_2 (by decide) ?_
  refine g_aload_n C dX11_verdictBy_5 rfl rfl ?_
  refine g_iconst (v := (0 : Int32)) C dX11_verdictBy_6 (by decide) ?_
  refine put_X11_74 C dX11_verdictBy_7 (by decide) ?_
  refine g_iload_n C dX11_verdictBy_10 rfl rfl ?_
  refine g_i2l C dX11_verdictBy_11 ?_
  refine g_lconst (v := (0 : Int64)) C dX11_verdictBy_12 (by decide) ?_
  refine g_ldc2 C dX11_verdictBy_13 qc_X11_406 ?_
  obtain ⟨r3, hr3, h⟩ := Option.bind_eq_some_iff.mp h
  refine call_X11_106 C dX11_verdictBy_16 (c_X11_isIn E hr3) (by decide) rfl ?_
  refine g_if_eq (tgt := 39) C dX11_verdictBy_19 (by decide) h (fun h => ?_) (fun h => ?_)
  · refine g_aload_n C dX11_verdictBy_39 rfl rfl ?_
    refine g_iconst (v := (5 : Int32)) C dX11_verdictBy_40 (by decide) ?_
    obtain ⟨q4, hr4, h⟩ := Option.bind_eq_some_iff.mp h
    refine call_X11_340 C dX11_verdictBy_41 (by decide) (c_X11_refuse E hr4) (by decide) rfl ?_
    exact g_iret C R dX11_verdictBy_44 (fst_of h) (snd_of h)
  · refine g_iload_n C dX11_verdictBy_22 rfl rfl ?_
    refine g_aload_n C dX11_verdictBy_23 rfl rfl ?_
    refine g_iconst (v := (1 : Int32)) C dX11_verdictBy_24 (by decide) ?_
    obtain ⟨r5, hr5, h⟩ := Option.bind_eq_some_iff.mp h
    refine call_X11_374 C dX11_verdictBy_25 (by decide) (c_X11_votesFor E hr5) (by decide) rfl ?_
    refine g_aload_n C dX11_verdictBy_28 rfl rfl ?_
    refine g_iconst (v := (-1 : Int32)) C dX11_verdictBy_29 (by decide) ?_
    obtain ⟨r6, hr6, h⟩ := Option.bind_eq_some_iff.mp h
    refine call_X11_374 C dX11_verdictBy_30 (by decide) (c_X11_votesFor E hr6) (by decide) rfl ?_
    obtain ⟨r7, hr7, h⟩ := Option.bind_eq_some_iff.mp h
    refine call_X11_380 C dX11_verdictBy_33 (c_X11_judge E hr7) (by decide) rfl ?_
    refine g_goto (tgt := 44) C dX11_verdictBy_36 (by decide) ?_
    exact g_iret C R dX11_verdictBy_44 (fst_of h) (snd_of h)
noncomputable def f_X11_swing_19 (x2 : Int32) : Nat → Int32 → Int32 → Mem → Option (Int32 × Mem)
  | 0, _, _, _ => none
  | n + 1, x1, x3, M =>
  if x3 < (M.1 55 0 0) then
    (f_X11_strikesOne x3 M).bind fun q4 =>
    if q4.1 = 0 then
      f_X11_swing_19 x2 n x1 (x3 + (1 : Int32)) q4.2
    else
      (f_X11_judged q4.2).bind fun r5 =>
      if r5 = x2 then
        (f_X11_seatsOne x3 q4.2).bind fun q8 =>
        f_X11_swing_19 x2 n (x1 ||| (0 : Int32)) (x3 + (1 : Int32)) q8.2
      else
        let x1_6 := (x1 ||| ((1 : Int32) <<< (x3 &&& 31)))
        (f_X11_seatsOne x3 q4.2).bind fun q7 =>
        f_X11_swing_19 x2 n x1_6 (x3 + (1 : Int32)) q7.2
  else
    some (x1, M)
noncomputable def f_X11_swing (M : Mem) : Option (Int32 × Mem) :=
  let M1 := sR M 50 0 (upd (M.1 50 0) 1 (0 : Int32))
  let M2 := sR M1 50 0 (upd (M1.1 50 0) 0 (0 : Int32))
  (f_X11_judged M2).bind fun r3 =>
  f_X11_swing_19 r3 FU (0 : Int32) (0 : Int32) M2
set_option maxRecDepth 20000 in
set_option maxHeartbeats 2000000 in
theorem b_X11_swing_19 {E : wEnv} {Y : YT} (C : Cx E Y cX11_swing 4 RX11 4) {q : (Int32 × Mem)} (R : Rx E Y (some .int) (some (.int q.1)) q.2) {x2 : Int32} (n : Nat) : ∀ {x1 : Int32} {x3 : Int32} {M : Mem} (_ : f_X11_swing_19 x2 n x1 x3 M = some q), G E Y 4 M 19 [(0, .ref (ad E 50 0)), (1, .int x1), (2, .int x2), (3, .int x3)] [] := by
  induction n with
  | zero =>
    intro x1 x3 M h
    cases (show none = some q from h)
  | succ n ih =>
    intro x1 x3 M h
    rw [f_X11_swing_19] at h
    refine g_iload_n C dX11_swing_19 rfl rfl ?_
    refine g_aload_n C dX11_swing_20 rfl rfl ?_
    refine get_X11_35 C dX11_swing_21 (by decide) ?_
    refine g_iconst (v := (0 : Int32)) C dX11_swing_24 (by decide) ?_
    refine ld_55 (j := 0) C dX11_swing_25 (by decide) (by decide) rfl ?_
    refine g_icmp_ge (tgt := 70) C dX11_swing_26 (by decide) h (fun h => ?_) (fun h => ?_)
    · refine g_iload_n C dX11_swing_70 rfl rfl ?_
      exact g_iret C R dX11_swing_71 (fst_of h) (snd_of h)
    · refine g_aload_n C dX11_swing_29 rfl rfl ?_
      refine g_iload_n C dX11_swing_30 rfl rfl ?_
      obtain ⟨q4, hr4, h⟩ := Option.bind_eq_some_iff.mp h
      refine call_X11_395 C dX11_swing_31 (by decide) (c_X11_strikesOne E hr4) (by decide) rfl ?_
      refine g_if_ne (tgt := 40) C dX11_swing_34 (by decide) h (fun h => ?_) (fun h => ?_)
      · refine g_iload_n C dX11_swing_40 rfl rfl ?_
        refine g_aload_n C dX11_swing_41 rfl rfl ?_
        obtain ⟨r5, hr5, h⟩ := Option.bind_eq_some_iff.mp h
        refine call_X11_389 C dX11_swing_42 (by decide) (c_X11_judged E hr5) (by decide) rfl ?_
        refine g_iload_n C dX11_swing_45 rfl rfl ?_
        refine g_icmp_ne (tgt := 53) C dX11_swing_46 (by decide) h (fun h => ?_) (fun h => ?_)
        · refine g_iconst (v := (1 : Int32)) C dX11_swing_53 (by decide) ?_
          refine g_iload_n C dX11_swing_54 rfl rfl ?_
          refine g_ishl C dX11_swing_55 ?_
          refine g_ior C dX11_swing_56 ?_
          refine g_istore_n C dX11_swing_57 rfl rfl ?_
          refine g_aload_n C dX11_swing_58 rfl rfl ?_
          refine g_iload_n C dX11_swing_59 rfl rfl ?_
          obtain ⟨q7, hr7, h⟩ := Option.bind_eq_some_iff.mp h
          refine call_X11_398 C dX11_swing_60 (by decide) (c_X11_seatsOne E hr7) (by decide) rfl ?_
          refine g_pop C dX11_swing_63 rfl ?_
          refine g_iinc (w := (1 : Int32)) C dX11_swing_64 rfl (by decide) rfl ?_
          refine g_goto (tgt := 19) C dX11_swing_67 (by decide) ?_
          exact g_sub (ih h) ⟨rfl, rfl, rfl, rfl, trivial⟩
        · refine g_iconst (v := (0 : Int32)) C dX11_swing_49 (by decide) ?_
          refine g_goto (tgt := 56) C dX11_swing_50 (by decide) ?_
          refine g_ior C dX11_swing_56 ?_
          refine g_istore_n C dX11_swing_57 rfl rfl ?_
          refine g_aload_n C dX11_swing_58 rfl rfl ?_
          refine g_iload_n C dX11_swing_59 rfl rfl ?_
          obtain ⟨q8, hr8, h⟩ := Option.bind_eq_some_iff.mp h
          refine call_X11_398 C dX11_swing_60 (by decide) (c_X11_seatsOne E hr8) (by decide) rfl ?_
          refine g_pop C dX11_swing_63 rfl ?_
          refine g_iinc (w := (1 : Int32)) C dX11_swing_64 rfl (by decide) rfl ?_
          refine g_goto (tgt := 19) C dX11_swing_67 (by decide) ?_
          exact g_sub (ih h) ⟨rfl, rfl, rfl, rfl, trivial⟩
      · refine g_goto (tgt := 64) C dX11_swing_37 (by decide) ?_
        refine g_iinc (w := (1 : Int32)) C dX11_swing_64 rfl (by decide) rfl ?_
        refine g_goto (tgt := 19) C dX11_swing_67 (by decide) ?_
        exact g_sub (ih h) ⟨rfl, rfl, rfl, rfl, trivial⟩
set_option maxRecDepth 20000 in
set_option maxHeartbeats 2000000 in
theorem c_X11_swing (E : wEnv) {M : Mem} {q : (Int32 × Mem)} (h : f_X11_swing M = some q) : Mt E yX11_swing cX11_swing 4 (some .int) 4 [.ref (ad E 50 0)] M (some (.int q.1)) q.2 := by
  unfold f_X11_swing at h
  refine mt_intro (own := RX11) (lv0 := [(0, .ref (ad E 50 0))]) (by decide) rfl rfl rfl (fun Y C R => ?_)
  refine g_aload_n C dX11_swing_0 rfl rfl ?_
  refine g_iconst (v := (0 : Int32)) C dX11_swing_1 (by decide) ?_
  refine put_X11_71 C dX11_swing_2 (by decide) ?_
  refine g_aload_n C dX11_swing_5 rfl rfl ?_
  refine g_iconst (v := (0 : Int32)) C dX11_swing_6 (by decide) ?_
  refine put_X11_74 C dX11_swing_7 (by decide) ?_
  refine g_iconst (v := (0 : Int32)) C dX11_swing_10 (by decide) ?_
  refine g_istore_n C dX11_swing_11 rfl rfl ?_
  refine g_aload_n C dX11_swing_12 rfl rfl ?_
  obtain ⟨r3, hr3, h⟩ := Option.bind_eq_some_iff.mp h
  refine call_X11_389 C dX11_swing_13 (by decide) (c_X11_judged E hr3) (by decide) rfl ?_
  refine g_istore_n C dX11_swing_16 rfl rfl ?_
  refine g_iconst (v := (0 : Int32)) C dX11_swing_17 (by decide) ?_
  refine g_istore_n C dX11_swing_18 rfl rfl ?_
  exact g_sub (b_X11_swing_19 C R _ h) ⟨rfl, rfl, rfl, rfl, trivial⟩
noncomputable def f_X11_lacks_37 (x1 : Int32) (x2 : Int32) (M : Mem) : Nat → Int32 → Option (Int32 × Mem)
  | 0, _ => none
  | n + 1, x3 =>
  (f_X11_judge (M.1 55 0 5) (x1 + x3) (x2 - x3)).bind fun r5 =>
  if r5 = (1 : Int32) then
    some (x3, M)
  else
    f_X11_lacks_37 x1 x2 M n (x3 + (1 : Int32))
noncomputable def f_X11_lacks (M : Mem) : Option (Int32 × Mem) :=
  let M1 := sR M 50 0 (upd (M.1 50 0) 1 (0 : Int32))
  let M2 := sR M1 50 0 (upd (M1.1 50 0) 0 (0 : Int32))
  (f_X11_votesFor (1 : Int32) M2).bind fun r3 =>
  (f_X11_votesFor (-1 : Int32) M2).bind fun r4 =>
  if (r3 + r4) = 0 then
    (f_X11_refuse (8 : Int32) M2).bind fun q6 =>
    some (q6.1, q6.2)
  else
    f_X11_lacks_37 r3 r4 M2 FU (0 : Int32)
set_option maxRecDepth 20000 in
set_option maxHeartbeats 2000000 in
theorem b_X11_lacks_37 {E : wEnv} {Y : YT} (C : Cx E Y cX11_lacks 4 RX11 3) {q : (Int32 × Mem)} {M : Mem} (R : Rx E Y (some .int) (some (.int q.1)) q.2) {x1 : Int32} {x2 : Int32} (n : Nat) : ∀ {x3 : Int32} (_ : f_X11_lacks_37 x1 x2 M n x3 = some q), G E Y 4 M 37 [(0, .ref (ad E 50 0)), (1, .int x1), (2, .int x2), (3, .int x3)] [] := by
  induction n with
  | zero =>
    intro x3 h
    cases (show none = some q from h)
  | succ n ih =>
    intro x3 h
    rw [f_X11_lacks_37] at h
    refine g_aload_n C dX11_lacks_37 rfl rfl ?_
    refine get_X11_35 C dX11_lacks_38 (by decide) ?_
    refine g_iconst (v := (5 : Int32)) C dX11_lacks_41 (by decide) ?_
    refine ld_55 (j := 5) C dX11_lacks_42 (by decide) (by decide) rfl ?_
    refine g_iload_n C dX11_lacks_43 rfl rfl ?_
    refine g_iload_n C dX11_lacks_44 rfl rfl ?_
    refine g_iadd C dX11_lacks_45 ?_
    refine g_iload_n C dX11_lacks_46 rfl rfl ?_
    refine g_iload_n C dX11_lacks_47 rfl rfl ?_
    refine g_isub C dX11_lacks_48 ?_
    obtain ⟨r5, hr5, h⟩ := Option.bind_eq_some_iff.mp h
    refine call_X11_380 C dX11_lacks_49 (c_X11_judge E hr5) (by decide) rfl ?_
    refine g_iconst (v := (1 : Int32)) C dX11_lacks_52 (by decide) ?_
    refine g_icmp_eq (tgt := 62) C dX11_lacks_53 (by decide) h (fun h => ?_) (fun h => ?_)
    · refine g_iload_n C dX11_lacks_62 rfl rfl ?_
      exact g_iret C R dX11_lacks_63 (fst_of h) (snd_of h)
    · refine g_iinc (w := (1 : Int32)) C dX11_lacks_56 rfl (by decide) rfl ?_
      refine g_goto (tgt := 37) C dX11_lacks_59 (by decide) ?_
      exact g_sub (ih h) ⟨rfl, rfl, rfl, rfl, trivial⟩
set_option maxRecDepth 20000 in
set_option maxHeartbeats 2000000 in
theorem c_X11_lacks (E : wEnv) {M : Mem} {q : (Int32 × Mem)} (h : f_X11_lacks M = some q) : Mt E yX11_lacks cX11_lacks 4 (some .int) 3 [.ref (ad E 50 0)] M (some (.int q.1)) q.2 := by
  unfold f_X11_lacks at h
  refine mt_intro (own := RX11) (lv0 := [(0, .ref (ad E 50 0))]) (by decide) rfl rfl rfl (fun Y C R => ?_)
  refine g_aload_n C dX11_lacks_0 rfl rfl ?_
  refine g_iconst (v := (0 : Int32)) C dX11_lacks_1 (by decide) ?_
  refine put_X11_71 C dX11_lacks_2 (by decide) ?_
  refine g_aload_n C dX11_lacks_5 rfl rfl ?_
  refine g_iconst (v := (0 : Int32)) C dX11_lacks_6 (by decide) ?_
  refine put_X11_74 C dX11_lacks_7 (by decide) ?_
  refine g_aload_n C dX11_lacks_10 rfl rfl ?_
  refine g_iconst (v := (1 : Int32)) C dX11_lacks_11 (by decide) ?_
  obtain ⟨r3, hr3, h⟩ := Option.bind_eq_some_iff.mp h
  refine call_X11_374 C dX11_lacks_12 (by decide) (c_X11_votesFor E hr3) (by decide) rfl ?_
  refine g_istore_n C dX11_lacks_15 rfl rfl ?_
  refine g_aload_n C dX11_lacks_16 rfl rfl ?_
  refine g_iconst (v := (-1 : Int32)) C dX11_lacks_17 (by decide) ?_
  obtain ⟨r4, hr4, h⟩ := Option.bind_eq_some_iff.mp h
  refine call_X11_374 C dX11_lacks_18 (by decide) (c_X11_votesFor E hr4) (by decide) rfl ?_
  refine g_istore_n C dX11_lacks_21 rfl rfl ?_
  refine g_iload_n C dX11_lacks_22 rfl rfl ?_
  refine g_iload_n C dX11_lacks_23 rfl rfl ?_
  refine g_iadd C dX11_lacks_24 ?_
  refine g_if_ne (tgt := 35) C dX11_lacks_25 (by decide) h (fun h => ?_) (fun h => ?_)
  · refine g_iconst (v := (0 : Int32)) C dX11_lacks_35 (by decide) ?_
    refine g_istore_n C dX11_lacks_36 rfl rfl ?_
    exact g_sub (b_X11_lacks_37 C R _ h) ⟨rfl, rfl, rfl, rfl, trivial⟩
  · refine g_aload_n C dX11_lacks_28 rfl rfl ?_
    refine g_bipush (v := (8 : Int32)) C dX11_lacks_29 (by decide) ?_
    obtain ⟨q6, hr6, h⟩ := Option.bind_eq_some_iff.mp h
    refine call_X11_340 C dX11_lacks_31 (by decide) (c_X11_refuse E hr6) (by decide) rfl ?_
    exact g_iret C R dX11_lacks_34 (fst_of h) (snd_of h)
noncomputable def f_X11_farFrom (x1 : Int32) (M : Mem) : Option Int32 :=
  if inb ((42 : Int32) + x1) 2375 = true then
   if 0 < (M.1 55 0 (((42 : Int32) + x1).toNatClampNeg)) then
     if inb ((42 : Int32) + x1) 2375 = true then
      some (M.1 55 0 (((42 : Int32) + x1).toNatClampNeg))
     else none
   else
     if inb ((42 : Int32) + x1) 2375 = true then
      some ((1 : Int32) - (M.1 55 0 (((42 : Int32) + x1).toNatClampNeg)))
     else none
  else none
set_option maxRecDepth 20000 in
set_option maxHeartbeats 2000000 in
theorem c_X11_farFrom (E : wEnv) {x1 : Int32} {M : Mem} {q : Int32} (h : f_X11_farFrom x1 M = some q) : Mt E yX11_farFrom cX11_farFrom 2 (some .int) 0 [.ref (ad E 50 0), .int x1] M (some (.int q)) M := by
  unfold f_X11_farFrom at h
  refine mt_intro (own := RX11) (lv0 := [(0, .ref (ad E 50 0)), (1, .int x1)]) (by decide) rfl rfl rfl (fun Y C R => ?_)
  refine g_aload_n C dX11_farFrom_0 rfl rfl ?_
  refine get_X11_35 C dX11_farFrom_1 (by decide) ?_
  refine g_bipush (v := (42 : Int32)) C dX11_farFrom_4 (by decide) ?_
  refine g_iload_n C dX11_farFrom_6 rfl rfl ?_
  refine g_iadd C dX11_farFrom_7 ?_
  obtain ⟨hb1, h⟩ := of_ite h
  refine ld_55 (j := _) C dX11_farFrom_8 (by decide) hb1 rfl ?_
  refine g_if_le (tgt := 24) C dX11_farFrom_9 (by decide) h (fun h => ?_) (fun h => ?_)
  · refine g_iconst (v := (1 : Int32)) C dX11_farFrom_24 (by decide) ?_
    refine g_aload_n C dX11_farFrom_25 rfl rfl ?_
    refine get_X11_35 C dX11_farFrom_26 (by decide) ?_
    refine g_bipush (v := (42 : Int32)) C dX11_farFrom_29 (by decide) ?_
    refine g_iload_n C dX11_farFrom_31 rfl rfl ?_
    refine g_iadd C dX11_farFrom_32 ?_
    obtain ⟨hb2, h⟩ := of_ite h
    refine ld_55 (j := _) C dX11_farFrom_33 (by decide) hb2 rfl ?_
    refine g_isub C dX11_farFrom_34 ?_
    exact g_iret C R dX11_farFrom_35 (Option.some.inj h) rfl
  · refine g_aload_n C dX11_farFrom_12 rfl rfl ?_
    refine get_X11_35 C dX11_farFrom_13 (by decide) ?_
    refine g_bipush (v := (42 : Int32)) C dX11_farFrom_16 (by decide) ?_
    refine g_iload_n C dX11_farFrom_18 rfl rfl ?_
    refine g_iadd C dX11_farFrom_19 ?_
    obtain ⟨hb3, h⟩ := of_ite h
    refine ld_55 (j := _) C dX11_farFrom_20 (by decide) hb3 rfl ?_
    refine g_goto (tgt := 35) C dX11_farFrom_21 (by decide) ?_
    exact g_iret C R dX11_farFrom_35 (Option.some.inj h) rfl
noncomputable def f_X11_nearest_14 (M : Mem) : Nat → Int32 → Int32 → Option (Int32 × Mem)
  | 0, _, _ => none
  | n + 1, x1, x2 =>
  if x2 < (M.1 55 0 0) then
    (f_X11_isSeated x2 M).bind fun r4 =>
    if r4 = 0 then
      f_X11_nearest_14 M n x1 (x2 + (1 : Int32))
    else
      if x1 < 0 then
        f_X11_nearest_14 M n x2 (x2 + (1 : Int32))
      else
        (f_X11_farFrom x2 M).bind fun r5 =>
        (f_X11_farFrom x1 M).bind fun r6 =>
        if r5 < r6 then
          f_X11_nearest_14 M n x2 (x2 + (1 : Int32))
        else
          f_X11_nearest_14 M n x1 (x2 + (1 : Int32))
  else
    if x1 < 0 then
      (f_X11_refuse (8 : Int32) M).bind fun q3 =>
      some (q3.1, q3.2)
    else
      some (x1, M)
noncomputable def f_X11_nearest (M : Mem) : Option (Int32 × Mem) :=
  let M1 := sR M 50 0 (upd (M.1 50 0) 1 (0 : Int32))
  let M2 := sR M1 50 0 (upd (M1.1 50 0) 0 (0 : Int32))
  f_X11_nearest_14 M2 FU (-1 : Int32) (0 : Int32)
set_option maxRecDepth 20000 in
set_option maxHeartbeats 2000000 in
theorem b_X11_nearest_14 {E : wEnv} {Y : YT} (C : Cx E Y cX11_nearest 3 RX11 2) {q : (Int32 × Mem)} {M : Mem} (R : Rx E Y (some .int) (some (.int q.1)) q.2) (n : Nat) : ∀ {x1 : Int32} {x2 : Int32} (_ : f_X11_nearest_14 M n x1 x2 = some q), G E Y 3 M 14 [(0, .ref (ad E 50 0)), (1, .int x1), (2, .int x2)] [] := by
  induction n with
  | zero =>
    intro x1 x2 h
    cases (show none = some q from h)
  | succ n ih =>
    intro x1 x2 h
    rw [f_X11_nearest_14] at h
    refine g_iload_n C dX11_nearest_14 rfl rfl ?_
    refine g_aload_n C dX11_nearest_15 rfl rfl ?_
    refine get_X11_35 C dX11_nearest_16 (by decide) ?_
    refine g_iconst (v := (0 : Int32)) C dX11_nearest_19 (by decide) ?_
    refine ld_55 (j := 0) C dX11_nearest_20 (by decide) (by decide) rfl ?_
    refine g_icmp_ge (tgt := 57) C dX11_nearest_21 (by decide) h (fun h => ?_) (fun h => ?_)
    · refine g_iload_n C dX11_nearest_57 rfl rfl ?_
      refine g_if_ge (tgt := 70) C dX11_nearest_58 (by decide) h (fun h => ?_) (fun h => ?_)
      · refine g_iload_n C dX11_nearest_70 rfl rfl ?_
        exact g_iret C R dX11_nearest_71 (fst_of h) (snd_of h)
      · refine g_aload_n C dX11_nearest_61 rfl rfl ?_
        refine g_bipush (v := (8 : Int32)) C dX11_nearest_62 (by decide) ?_
        obtain ⟨q3, hr3, h⟩ := Option.bind_eq_some_iff.mp h
        refine call_X11_340 C dX11_nearest_64 (by decide) (c_X11_refuse E hr3) (by decide) rfl ?_
        refine g_goto (tgt := 71) C dX11_nearest_67 (by decide) ?_
        exact g_iret C R dX11_nearest_71 (fst_of h) (snd_of h)
    · refine g_aload_n C dX11_nearest_24 rfl rfl ?_
      refine g_iload_n C dX11_nearest_25 rfl rfl ?_
      obtain ⟨r4, hr4, h⟩ := Option.bind_eq_some_iff.mp h
      refine call_X11_361 C dX11_nearest_26 (by decide) (c_X11_isSeated E hr4) (by decide) rfl ?_
      refine g_if_eq (tgt := 51) C dX11_nearest_29 (by decide) h (fun h => ?_) (fun h => ?_)
      · refine g_iinc (w := (1 : Int32)) C dX11_nearest_51 rfl (by decide) rfl ?_
        refine g_goto (tgt := 14) C dX11_nearest_54 (by decide) ?_
        exact g_sub (ih h) ⟨rfl, rfl, rfl, trivial⟩
      · refine g_iload_n C dX11_nearest_32 rfl rfl ?_
        refine g_if_lt (tgt := 49) C dX11_nearest_33 (by decide) h (fun h => ?_) (fun h => ?_)
        · refine g_iload_n C dX11_nearest_49 rfl rfl ?_
          refine g_istore_n C dX11_nearest_50 rfl rfl ?_
          refine g_iinc (w := (1 : Int32)) C dX11_nearest_51 rfl (by decide) rfl ?_
          refine g_goto (tgt := 14) C dX11_nearest_54 (by decide) ?_
          exact g_sub (ih h) ⟨rfl, rfl, rfl, trivial⟩
        · refine g_aload_n C dX11_nearest_36 rfl rfl ?_
          refine g_iload_n C dX11_nearest_37 rfl rfl ?_
          obtain ⟨r5, hr5, h⟩ := Option.bind_eq_some_iff.mp h
          refine call_X11_408 C dX11_nearest_38 (by decide) (c_X11_farFrom E hr5) (by decide) rfl ?_
          refine g_aload_n C dX11_nearest_41 rfl rfl ?_
          refine g_iload_n C dX11_nearest_42 rfl rfl ?_
          obtain ⟨r6, hr6, h⟩ := Option.bind_eq_some_iff.mp h
          refine call_X11_408 C dX11_nearest_43 (by decide) (c_X11_farFrom E hr6) (by decide) rfl ?_
          refine g_icmp_ge (tgt := 51) C dX11_nearest_46 (by decide) h (fun h => ?_) (fun h => ?_)
          · refine g_iinc (w := (1 : Int32)) C dX11_nearest_51 rfl (by decide) rfl ?_
            refine g_goto (tgt := 14) C dX11_nearest_54 (by decide) ?_
            exact g_sub (ih h) ⟨rfl, rfl, rfl, trivial⟩
          · refine g_iload_n C dX11_nearest_49 rfl rfl ?_
            refine g_istore_n C dX11_nearest_50 rfl rfl ?_
            refine g_iinc (w := (1 : Int32)) C dX11_nearest_51 rfl (by decide) rfl ?_
            refine g_goto (tgt := 14) C dX11_nearest_54 (by decide) ?_
            exact g_sub (ih h) ⟨rfl, rfl, rfl, trivial⟩
set_option maxRecDepth 20000 in
set_option maxHeartbeats 2000000 in
theorem c_X11_nearest (E : wEnv) {M : Mem} {q : (Int32 × Mem)} (h : f_X11_nearest M = some q) : Mt E yX11_nearest cX11_nearest 3 (some .int) 2 [.ref (ad E 50 0)] M (some (.int q.1)) q.2 := by
  unfold f_X11_nearest at h
  refine mt_intro (own := RX11) (lv0 := [(0, .ref (ad E 50 0))]) (by decide) rfl rfl rfl (fun Y C R => ?_)
  refine g_aload_n C dX11_nearest_0 rfl rfl ?_
  refine g_iconst (v := (0 : Int32)) C dX11_nearest_1 (by decide) ?_
  refine put_X11_71 C dX11_nearest_2 (by decide) ?_
  refine g_aload_n C dX11_nearest_5 rfl rfl ?_
  refine g_iconst (v := (0 : Int32)) C dX11_nearest_6 (by decide) ?_
  refine put_X11_74 C dX11_nearest_7 (by decide) ?_
  refine g_iconst (v := (-1 : Int32)) C dX11_nearest_10 (by decide) ?_
  refine g_istore_n C dX11_nearest_11 rfl rfl ?_
  refine g_iconst (v := (0 : Int32)) C dX11_nearest_12 (by decide) ?_
  refine g_istore_n C dX11_nearest_13 rfl rfl ?_
  exact g_sub (b_X11_nearest_14 C R _ h) ⟨rfl, rfl, rfl, trivial⟩
noncomputable def f_X11_pull (x1 : Int32) (M : Mem) : Option (Int32 × Mem) :=
  let M1 := sR M 50 0 (upd (M.1 50 0) 1 (0 : Int32))
  let M2 := sR M1 50 0 (upd (M1.1 50 0) 0 (0 : Int32))
  (f_X11_isJurorAt x1 M2).bind fun r3 =>
  if r3 = 0 then
    (f_X11_refuse (2 : Int32) M2).bind fun q8 =>
    some (q8.1, q8.2)
  else
    (f_X11_isSeated x1 M2).bind fun r4 =>
    if r4 = 0 then
      (f_X11_refuse (9 : Int32) M2).bind fun q5 =>
      some (q5.1, q5.2)
    else
      (f_X11_pulled x1 M2).bind fun r6 =>
      if inb ((42 : Int32) + x1) 2375 = true then
       some ((r6 - (M2.1 55 0 (((42 : Int32) + x1).toNatClampNeg))), M2)
      else none
set_option maxRecDepth 20000 in
set_option maxHeartbeats 2000000 in
theorem c_X11_pull (E : wEnv) {x1 : Int32} {M : Mem} {q : (Int32 × Mem)} (h : f_X11_pull x1 M = some q) : Mt E yX11_pull cX11_pull 2 (some .int) 3 [.ref (ad E 50 0), .int x1] M (some (.int q.1)) q.2 := by
  unfold f_X11_pull at h
  refine mt_intro (own := RX11) (lv0 := [(0, .ref (ad E 50 0)), (1, .int x1)]) (by decide) rfl rfl rfl (fun Y C R => ?_)
  refine g_aload_n C dX11_pull_0 rfl rfl ?_
  refine g_iconst (v := (0 : Int32)) C dX11_pull_1 (by decide) ?_
  refine put_X11_71 C dX11_pull_2 (by decide) ?_
  refine g_aload_n C dX11_pull_5 rfl rfl ?_
  refine g_iconst (v := (0 : Int32)) C dX11_pull_6 (by decide) ?_
  refine put_X11_74 C dX11_pull_7 (by decide) ?_
  refine g_aload_n C dX11_pull_10 rfl rfl ?_
  refine g_iload_n C dX11_pull_11 rfl rfl ?_
  obtain ⟨r3, hr3, h⟩ := Option.bind_eq_some_iff.mp h
  refine call_X11_343 C dX11_pull_12 (by decide) (c_X11_isJurorAt E hr3) (by decide) rfl ?_
  refine g_if_ne (tgt := 24) C dX11_pull_15 (by decide) h (fun h => ?_) (fun h => ?_)
  · refine g_aload_n C dX11_pull_24 rfl rfl ?_
    refine g_iload_n C dX11_pull_25 rfl rfl ?_
    obtain ⟨r4, hr4, h⟩ := Option.bind_eq_some_iff.mp h
    refine call_X11_361 C dX11_pull_26 (by decide) (c_X11_isSeated E hr4) (by decide) rfl ?_
    refine g_if_eq (tgt := 50) C dX11_pull_29 (by decide) h (fun h => ?_) (fun h => ?_)
    · refine g_aload_n C dX11_pull_50 rfl rfl ?_
      refine g_bipush (v := (9 : Int32)) C dX11_pull_51 (by decide) ?_
      obtain ⟨q5, hr5, h⟩ := Option.bind_eq_some_iff.mp h
      refine call_X11_340 C dX11_pull_53 (by decide) (c_X11_refuse E hr5) (by decide) rfl ?_
      exact g_iret C R dX11_pull_56 (fst_of h) (snd_of h)
    · refine g_aload_n C dX11_pull_32 rfl rfl ?_
      refine g_iload_n C dX11_pull_33 rfl rfl ?_
      obtain ⟨r6, hr6, h⟩ := Option.bind_eq_some_iff.mp h
      refine call_X11_371 C dX11_pull_34 (by decide) (c_X11_pulled E hr6) (by decide) rfl ?_
      refine g_aload_n C dX11_pull_37 rfl rfl ?_
      refine get_X11_35 C dX11_pull_38 (by decide) ?_
      refine g_bipush (v := (42 : Int32)) C dX11_pull_41 (by decide) ?_
      refine g_iload_n C dX11_pull_43 rfl rfl ?_
      refine g_iadd C dX11_pull_44 ?_
      obtain ⟨hb7, h⟩ := of_ite h
      refine ld_55 (j := _) C dX11_pull_45 (by decide) hb7 rfl ?_
      refine g_isub C dX11_pull_46 ?_
      refine g_goto (tgt := 56) C dX11_pull_47 (by decide) ?_
      exact g_iret C R dX11_pull_56 (fst_of h) (snd_of h)
  · refine g_aload_n C dX11_pull_18 rfl rfl ?_
    refine g_iconst (v := (2 : Int32)) C dX11_pull_19 (by decide) ?_
    obtain ⟨q8, hr8, h⟩ := Option.bind_eq_some_iff.mp h
    refine call_X11_340 C dX11_pull_20 (by decide) (c_X11_refuse E hr8) (by decide) rfl ?_
    exact g_iret C R dX11_pull_23 (fst_of h) (snd_of h)
noncomputable def f_X11_behind_54 (k113 : Int32 → Option (Int32 × Mem)) (x1 : Int32) (x2 : Int32) (x4 : Int32) (M : Mem) : Nat → Int32 → Int32 → Option (Int32 × Mem)
  | 0, _, _ => none
  | n + 1, x3, x5 =>
  if x5 < (M.1 55 0 0) then
    if x4 = x5 then
      f_X11_behind_54 k113 x1 x2 x4 M n x3 (x5 + (1 : Int32))
    else
      (f_X11_has x2 x5).bind fun r5 =>
      if r5 = 0 then
        f_X11_behind_54 k113 x1 x2 x4 M n x3 (x5 + (1 : Int32))
      else
        if inb (((52 : Int32) + ((10 : Int32) * x4)) + x5) 2375 = true then
         if 0 < (M.1 55 0 ((((52 : Int32) + ((10 : Int32) * x4)) + x5).toNatClampNeg)) then
           let x3_7 := (x3 ||| ((1 : Int32) <<< (x4 &&& 31)))
           f_X11_behind_54 k113 x1 x2 x4 M n x3_7 (x5 + (1 : Int32))
         else
           f_X11_behind_54 k113 x1 x2 x4 M n x3 (x5 + (1 : Int32))
        else none
  else
    k113 x3
noncomputable def f_X11_behind_40 (k119 : Int32 → Option (Int32 × Mem)) (x1 : Int32) (x2 : Int32) (M : Mem) : Nat → Int32 → Int32 → Option (Int32 × Mem)
  | 0, _, _ => none
  | n + 1, x3, x4 =>
  if x4 < (M.1 55 0 0) then
    f_X11_behind_54 (fun x3_8 =>
        f_X11_behind_40 k119 x1 x2 M n x3_8 (x4 + (1 : Int32))) x1 x2 x4 M FU x3 (0 : Int32)
  else
    k119 x3
noncomputable def f_X11_behind_30 (x1 : Int32) (M : Mem) : Nat → Int32 → Int32 → Option (Int32 × Mem)
  | 0, _, _ => none
  | n + 1, x2, x3 =>
  if x3 = x2 then
    some ((x2 &&& (((1 : Int32) <<< (x1 &&& 31)) ^^^ (-1 : Int32))), M)
  else
    f_X11_behind_40 (fun x3_9 =>
        f_X11_behind_30 x1 M n x3 x3_9) x1 x3 M FU x3 (0 : Int32)
noncomputable def f_X11_behind (x1 : Int32) (M : Mem) : Option (Int32 × Mem) :=
  let M1 := sR M 50 0 (upd (M.1 50 0) 1 (0 : Int32))
  let M2 := sR M1 50 0 (upd (M1.1 50 0) 0 (0 : Int32))
  (f_X11_isJurorAt x1 M2).bind fun r3 =>
  if r3 = 0 then
    (f_X11_refuse (2 : Int32) M2).bind fun q10 =>
    some (q10.1, q10.2)
  else
    let x3_4 := ((1 : Int32) <<< (x1 &&& 31))
    f_X11_behind_30 x1 M2 FU (0 : Int32) x3_4
set_option maxRecDepth 20000 in
set_option maxHeartbeats 2000000 in
theorem b_X11_behind_54 {E : wEnv} {Y : YT} (C : Cx E Y cX11_behind 6 RX11 2) {q : (Int32 × Mem)} {M : Mem} (R : Rx E Y (some .int) (some (.int q.1)) q.2) {x1 : Int32} {x2 : Int32} {x4 : Int32} {k113 : Int32 → Option (Int32 × Mem)} (hk113 : ∀ {x3 : Int32} , k113 x3 = some q → G E Y 6 M 113 [(0, .ref (ad E 50 0)), (1, .int x1), (2, .int x2), (3, .int x3), (4, .int x4)] []) (n : Nat) : ∀ {x3 : Int32} {x5 : Int32} (_ : f_X11_behind_54 k113 x1 x2 x4 M n x3 x5 = some q), G E Y 6 M 54 [(0, .ref (ad E 50 0)), (1, .int x1), (2, .int x2), (3, .int x3), (4, .int x4), (5, .int x5)] [] := by
  induction n with
  | zero =>
    intro x3 x5 h
    cases (show none = some q from h)
  | succ n ih =>
    intro x3 x5 h
    rw [f_X11_behind_54] at h
    refine g_iload C dX11_behind_54 rfl ?_
    refine g_aload_n C dX11_behind_56 rfl rfl ?_
    refine get_X11_35 C dX11_behind_57 (by decide) ?_
    refine g_iconst (v := (0 : Int32)) C dX11_behind_60 (by decide) ?_
    refine ld_55 (j := 0) C dX11_behind_61 (by decide) (by decide) rfl ?_
    refine g_icmp_ge (tgt := 113) C dX11_behind_62 (by decide) h (fun h => ?_) (fun h => ?_)
    · exact g_sub (hk113 h) ⟨rfl, rfl, rfl, rfl, rfl, trivial⟩
    · refine g_iload C dX11_behind_65 rfl ?_
      refine g_iload C dX11_behind_67 rfl ?_
      refine g_icmp_eq (tgt := 107) C dX11_behind_69 (by decide) h (fun h => ?_) (fun h => ?_)
      · refine g_iinc (w := (1 : Int32)) C dX11_behind_107 rfl (by decide) rfl ?_
        refine g_goto (tgt := 54) C dX11_behind_110 (by decide) ?_
        exact g_sub (ih h) ⟨rfl, rfl, rfl, rfl, rfl, rfl, trivial⟩
      · refine g_iload_n C dX11_behind_72 rfl rfl ?_
        refine g_iload C dX11_behind_73 rfl ?_
        obtain ⟨r5, hr5, h⟩ := Option.bind_eq_some_iff.mp h
        refine call_X11_110 C dX11_behind_75 (c_X11_has E hr5) (by decide) rfl ?_
        refine g_if_eq (tgt := 107) C dX11_behind_78 (by decide) h (fun h => ?_) (fun h => ?_)
        · refine g_iinc (w := (1 : Int32)) C dX11_behind_107 rfl (by decide) rfl ?_
          refine g_goto (tgt := 54) C dX11_behind_110 (by decide) ?_
          exact g_sub (ih h) ⟨rfl, rfl, rfl, rfl, rfl, rfl, trivial⟩
        · refine g_aload_n C dX11_behind_81 rfl rfl ?_
          refine get_X11_35 C dX11_behind_82 (by decide) ?_
          refine g_bipush (v := (52 : Int32)) C dX11_behind_85 (by decide) ?_
          refine g_bipush (v := (10 : Int32)) C dX11_behind_87 (by decide) ?_
          refine g_iload C dX11_behind_89 rfl ?_
          refine g_imul C dX11_behind_91 ?_
          refine g_iadd C dX11_behind_92 ?_
          refine g_iload C dX11_behind_93 rfl ?_
          refine g_iadd C dX11_behind_95 ?_
          obtain ⟨hb6, h⟩ := of_ite h
          refine ld_55 (j := _) C dX11_behind_96 (by decide) hb6 rfl ?_
          refine g_if_le (tgt := 107) C dX11_behind_97 (by decide) h (fun h => ?_) (fun h => ?_)
          · refine g_iinc (w := (1 : Int32)) C dX11_behind_107 rfl (by decide) rfl ?_
            refine g_goto (tgt := 54) C dX11_behind_110 (by decide) ?_
            exact g_sub (ih h) ⟨rfl, rfl, rfl, rfl, rfl, rfl, trivial⟩
          · refine g_iload_n C dX11_behind_100 rfl rfl ?_
            refine g_iconst (v := (1 : Int32)) C dX11_behind_101 (by decide) ?_
            refine g_iload C dX11_behind_102 rfl ?_
            refine g_ishl C dX11_behind_104 ?_
            refine g_ior C dX11_behind_105 ?_
            refine g_istore_n C dX11_behind_106 rfl rfl ?_
            refine g_iinc (w := (1 : Int32)) C dX11_behind_107 rfl (by decide) rfl ?_
            refine g_goto (tgt := 54) C dX11_behind_110 (by decide) ?_
            exact g_sub (ih h) ⟨rfl, rfl, rfl, rfl, rfl, rfl, trivial⟩
set_option maxRecDepth 20000 in
set_option maxHeartbeats 2000000 in
theorem b_X11_behind_40 {E : wEnv} {Y : YT} (C : Cx E Y cX11_behind 6 RX11 2) {q : (Int32 × Mem)} {M : Mem} (R : Rx E Y (some .int) (some (.int q.1)) q.2) {x1 : Int32} {x2 : Int32} {k119 : Int32 → Option (Int32 × Mem)} (hk119 : ∀ {x3 : Int32} , k119 x3 = some q → G E Y 6 M 119 [(0, .ref (ad E 50 0)), (1, .int x1), (2, .int x2), (3, .int x3)] []) (n : Nat) : ∀ {x3 : Int32} {x4 : Int32} (_ : f_X11_behind_40 k119 x1 x2 M n x3 x4 = some q), G E Y 6 M 40 [(0, .ref (ad E 50 0)), (1, .int x1), (2, .int x2), (3, .int x3), (4, .int x4)] [] := by
  induction n with
  | zero =>
    intro x3 x4 h
    cases (show none = some q from h)
  | succ n ih =>
    intro x3 x4 h
    rw [f_X11_behind_40] at h
    refine g_iload C dX11_behind_40 rfl ?_
    refine g_aload_n C dX11_behind_42 rfl rfl ?_
    refine get_X11_35 C dX11_behind_43 (by decide) ?_
    refine g_iconst (v := (0 : Int32)) C dX11_behind_46 (by decide) ?_
    refine ld_55 (j := 0) C dX11_behind_47 (by decide) (by decide) rfl ?_
    refine g_icmp_ge (tgt := 119) C dX11_behind_48 (by decide) h (fun h => ?_) (fun h => ?_)
    · exact g_sub (hk119 h) ⟨rfl, rfl, rfl, rfl, trivial⟩
    · refine g_iconst (v := (0 : Int32)) C dX11_behind_51 (by decide) ?_
      refine g_istore C dX11_behind_52 rfl ?_
      refine g_sub (b_X11_behind_54 C R ?_ _ h) ⟨rfl, rfl, rfl, rfl, rfl, rfl, trivial⟩
      · clear h
        intro x3_8 h
        refine g_iinc (w := (1 : Int32)) C dX11_behind_113 rfl (by decide) rfl ?_
        refine g_goto (tgt := 40) C dX11_behind_116 (by decide) ?_
        exact g_sub (ih h) ⟨rfl, rfl, rfl, rfl, rfl, trivial⟩
set_option maxRecDepth 20000 in
set_option maxHeartbeats 2000000 in
theorem b_X11_behind_30 {E : wEnv} {Y : YT} (C : Cx E Y cX11_behind 6 RX11 2) {q : (Int32 × Mem)} {M : Mem} (R : Rx E Y (some .int) (some (.int q.1)) q.2) {x1 : Int32} (n : Nat) : ∀ {x2 : Int32} {x3 : Int32} (_ : f_X11_behind_30 x1 M n x2 x3 = some q), G E Y 6 M 30 [(0, .ref (ad E 50 0)), (1, .int x1), (2, .int x2), (3, .int x3)] [] := by
  induction n with
  | zero =>
    intro x2 x3 h
    cases (show none = some q from h)
  | succ n ih =>
    intro x2 x3 h
    rw [f_X11_behind_30] at h
    refine g_iload_n C dX11_behind_30 rfl rfl ?_
    refine g_iload_n C dX11_behind_31 rfl rfl ?_
    refine g_icmp_eq (tgt := 122) C dX11_behind_32 (by decide) h (fun h => ?_) (fun h => ?_)
    · refine g_iload_n C dX11_behind_122 rfl rfl ?_
      refine g_iconst (v := (1 : Int32)) C dX11_behind_123 (by decide) ?_
      refine g_iload_n C dX11_behind_124 rfl rfl ?_
      refine g_ishl C dX11_behind_125 ?_
      refine g_iconst (v := (-1 : Int32)) C dX11_behind_126 (by decide) ?_
      refine g_ixor C dX11_behind_127 ?_
      refine g_iand C dX11_behind_128 ?_
      exact g_iret C R dX11_behind_129 (fst_of h) (snd_of h)
    · refine g_iload_n C dX11_behind_35 rfl rfl ?_
      refine g_istore_n C dX11_behind_36 rfl rfl ?_
      refine g_iconst (v := (0 : Int32)) C dX11_behind_37 (by decide) ?_
      refine g_istore C dX11_behind_38 rfl ?_
      refine g_sub (b_X11_behind_40 C R ?_ _ h) ⟨rfl, rfl, rfl, rfl, rfl, trivial⟩
      · clear h
        intro x3_9 h
        refine g_goto (tgt := 30) C dX11_behind_119 (by decide) ?_
        exact g_sub (ih h) ⟨rfl, rfl, rfl, rfl, trivial⟩
set_option maxRecDepth 20000 in
set_option maxHeartbeats 2000000 in
theorem c_X11_behind (E : wEnv) {x1 : Int32} {M : Mem} {q : (Int32 × Mem)} (h : f_X11_behind x1 M = some q) : Mt E yX11_behind cX11_behind 6 (some .int) 2 [.ref (ad E 50 0), .int x1] M (some (.int q.1)) q.2 := by
  unfold f_X11_behind at h
  refine mt_intro (own := RX11) (lv0 := [(0, .ref (ad E 50 0)), (1, .int x1)]) (by decide) rfl rfl rfl (fun Y C R => ?_)
  refine g_aload_n C dX11_behind_0 rfl rfl ?_
  refine g_iconst (v := (0 : Int32)) C dX11_behind_1 (by decide) ?_
  refine put_X11_71 C dX11_behind_2 (by decide) ?_
  refine g_aload_n C dX11_behind_5 rfl rfl ?_
  refine g_iconst (v := (0 : Int32)) C dX11_behind_6 (by decide) ?_
  refine put_X11_74 C dX11_behind_7 (by decide) ?_
  refine g_aload_n C dX11_behind_10 rfl rfl ?_
  refine g_iload_n C dX11_behind_11 rfl rfl ?_
  obtain ⟨r3, hr3, h⟩ := Option.bind_eq_some_iff.mp h
  refine call_X11_343 C dX11_behind_12 (by decide) (c_X11_isJurorAt E hr3) (by decide) rfl ?_
  refine g_if_ne (tgt := 24) C dX11_behind_15 (by decide) h (fun h => ?_) (fun h => ?_)
  · refine g_iconst (v := (0 : Int32)) C dX11_behind_24 (by decide) ?_
    refine g_istore_n C dX11_behind_25 rfl rfl ?_
    refine g_iconst (v := (1 : Int32)) C dX11_behind_26 (by decide) ?_
    refine g_iload_n C dX11_behind_27 rfl rfl ?_
    refine g_ishl C dX11_behind_28 ?_
    refine g_istore_n C dX11_behind_29 rfl rfl ?_
    exact g_sub (b_X11_behind_30 C R _ h) ⟨rfl, rfl, rfl, rfl, trivial⟩
  · refine g_aload_n C dX11_behind_18 rfl rfl ?_
    refine g_iconst (v := (2 : Int32)) C dX11_behind_19 (by decide) ?_
    obtain ⟨q10, hr10, h⟩ := Option.bind_eq_some_iff.mp h
    refine call_X11_340 C dX11_behind_20 (by decide) (c_X11_refuse E hr10) (by decide) rfl ?_
    exact g_iret C R dX11_behind_23 (fst_of h) (snd_of h)
noncomputable def f_X11_keeps_2 : Nat → Int32 → Mem → Option Mem
  | 0, _, _ => none
  | n + 1, x1, M =>
  if x1 < (198 : Int32) then
    if inb x1 2375 = true then
     if inb x1 198 = true then
      let M3 := sR M 56 0 (upd (M.1 56 0) x1.toNatClampNeg (M.1 55 0 x1.toNatClampNeg))
      f_X11_keeps_2 n (x1 + (1 : Int32)) M3
     else none
    else none
  else
    some M
noncomputable def f_X11_keeps (M : Mem) : Option Mem :=
  f_X11_keeps_2 FU (0 : Int32) M
set_option maxRecDepth 20000 in
set_option maxHeartbeats 2000000 in
theorem b_X11_keeps_2 {E : wEnv} {Y : YT} (C : Cx E Y cX11_keeps 2 RX11 0) {q : Mem} (R : Rx E Y none none q) (n : Nat) : ∀ {x1 : Int32} {M : Mem} (_ : f_X11_keeps_2 n x1 M = some q), G E Y 2 M 2 [(0, .ref (ad E 50 0)), (1, .int x1)] [] := by
  induction n with
  | zero =>
    intro x1 M h
    cases (show none = some q from h)
  | succ n ih =>
    intro x1 M h
    rw [f_X11_keeps_2] at h
    refine g_iload_n C dX11_keeps_2 rfl rfl ?_
    refine g_sipush (v := (198 : Int32)) C dX11_keeps_3 (by decide) ?_
    refine g_icmp_ge (tgt := 27) C dX11_keeps_6 (by decide) h (fun h => ?_) (fun h => ?_)
    · exact g_vret C R dX11_keeps_27 (Option.some.inj h)
    · refine g_aload_n C dX11_keeps_9 rfl rfl ?_
      refine get_X11_38 C dX11_keeps_10 (by decide) ?_
      refine g_iload_n C dX11_keeps_13 rfl rfl ?_
      refine g_aload_n C dX11_keeps_14 rfl rfl ?_
      refine get_X11_35 C dX11_keeps_15 (by decide) ?_
      refine g_iload_n C dX11_keeps_18 rfl rfl ?_
      obtain ⟨hb1, h⟩ := of_ite h
      refine ld_55 (j := _) C dX11_keeps_19 (by decide) hb1 rfl ?_
      obtain ⟨hb2, h⟩ := of_ite h
      refine st_56 (j := _) C dX11_keeps_20 (by decide) hb2 rfl ?_
      refine g_iinc (w := (1 : Int32)) C dX11_keeps_21 rfl (by decide) rfl ?_
      refine g_goto (tgt := 2) C dX11_keeps_24 (by decide) ?_
      exact g_sub (ih h) ⟨rfl, rfl, trivial⟩
set_option maxRecDepth 20000 in
set_option maxHeartbeats 2000000 in
theorem c_X11_keeps (E : wEnv) {M : Mem} {q : Mem} (h : f_X11_keeps M = some q) : Mt E yX11_keeps cX11_keeps 2 none 0 [.ref (ad E 50 0)] M none q := by
  unfold f_X11_keeps at h
  refine mt_intro (own := RX11) (lv0 := [(0, .ref (ad E 50 0))]) (by decide) rfl rfl rfl (fun Y C R => ?_)
  refine g_iconst (v := (0 : Int32)) C dX11_keeps_0 (by decide) ?_
  refine g_istore_n C dX11_keeps_1 rfl rfl ?_
  exact g_sub (b_X11_keeps_2 C R _ h) ⟨rfl, rfl, trivial⟩
noncomputable def f_X11_gives_2 : Nat → Int32 → Mem → Option Mem
  | 0, _, _ => none
  | n + 1, x1, M =>
  if x1 < (198 : Int32) then
    if inb x1 198 = true then
     if inb x1 2375 = true then
      let M3 := sR M 55 0 (upd (M.1 55 0) x1.toNatClampNeg (M.1 56 0 x1.toNatClampNeg))
      f_X11_gives_2 n (x1 + (1 : Int32)) M3
     else none
    else none
  else
    some M
noncomputable def f_X11_gives (M : Mem) : Option Mem :=
  f_X11_gives_2 FU (0 : Int32) M
set_option maxRecDepth 20000 in
set_option maxHeartbeats 2000000 in
theorem b_X11_gives_2 {E : wEnv} {Y : YT} (C : Cx E Y cX11_gives 2 RX11 0) {q : Mem} (R : Rx E Y none none q) (n : Nat) : ∀ {x1 : Int32} {M : Mem} (_ : f_X11_gives_2 n x1 M = some q), G E Y 2 M 2 [(0, .ref (ad E 50 0)), (1, .int x1)] [] := by
  induction n with
  | zero =>
    intro x1 M h
    cases (show none = some q from h)
  | succ n ih =>
    intro x1 M h
    rw [f_X11_gives_2] at h
    refine g_iload_n C dX11_gives_2 rfl rfl ?_
    refine g_sipush (v := (198 : Int32)) C dX11_gives_3 (by decide) ?_
    refine g_icmp_ge (tgt := 27) C dX11_gives_6 (by decide) h (fun h => ?_) (fun h => ?_)
    · exact g_vret C R dX11_gives_27 (Option.some.inj h)
    · refine g_aload_n C dX11_gives_9 rfl rfl ?_
      refine get_X11_35 C dX11_gives_10 (by decide) ?_
      refine g_iload_n C dX11_gives_13 rfl rfl ?_
      refine g_aload_n C dX11_gives_14 rfl rfl ?_
      refine get_X11_38 C dX11_gives_15 (by decide) ?_
      refine g_iload_n C dX11_gives_18 rfl rfl ?_
      obtain ⟨hb1, h⟩ := of_ite h
      refine ld_56 (j := _) C dX11_gives_19 (by decide) hb1 rfl ?_
      obtain ⟨hb2, h⟩ := of_ite h
      refine st_55 (j := _) C dX11_gives_20 (by decide) hb2 rfl ?_
      refine g_iinc (w := (1 : Int32)) C dX11_gives_21 rfl (by decide) rfl ?_
      refine g_goto (tgt := 2) C dX11_gives_24 (by decide) ?_
      exact g_sub (ih h) ⟨rfl, rfl, trivial⟩
set_option maxRecDepth 20000 in
set_option maxHeartbeats 2000000 in
theorem c_X11_gives (E : wEnv) {M : Mem} {q : Mem} (h : f_X11_gives M = some q) : Mt E yX11_gives cX11_gives 2 none 0 [.ref (ad E 50 0)] M none q := by
  unfold f_X11_gives at h
  refine mt_intro (own := RX11) (lv0 := [(0, .ref (ad E 50 0))]) (by decide) rfl rfl rfl (fun Y C R => ?_)
  refine g_iconst (v := (0 : Int32)) C dX11_gives_0 (by decide) ?_
  refine g_istore_n C dX11_gives_1 rfl rfl ?_
  exact g_sub (b_X11_gives_2 C R _ h) ⟨rfl, rfl, trivial⟩
noncomputable def f_X11_cameBefore_12 (k64 : Int32 → Option Int32) (x1 : Int32) (x2 : Int32) (M : Mem) : Nat → Int32 → Int32 → Option Int32
  | 0, _, _ => none
  | n + 1, x3, x4 =>
  if x4 < (M.1 55 0 0) then
    if x3 = 0 then
      k64 x3
    else
      if inb (((10 : Int32) * x2) + x4) 2010 = true then
       if inb ((42 : Int32) + x4) 2375 = true then
        if (M.1 58 0 ((((10 : Int32) * x2) + x4).toNatClampNeg)) = (M.1 55 0 (((42 : Int32) + x4).toNatClampNeg)) then
          f_X11_cameBefore_12 k64 x1 x2 M n (1 : Int32) (x4 + (1 : Int32))
        else
          f_X11_cameBefore_12 k64 x1 x2 M n (0 : Int32) (x4 + (1 : Int32))
       else none
      else none
  else
    k64 x3
noncomputable def f_X11_cameBefore_2 (x1 : Int32) (M : Mem) : Nat → Int32 → Option Int32
  | 0, _ => none
  | n + 1, x2 =>
  if x2 < x1 then
    f_X11_cameBefore_12 (fun x3_3 =>
        if x3_3 = 0 then
          f_X11_cameBefore_2 x1 M n (x2 + (1 : Int32))
        else
          some x2) x1 x2 M FU (1 : Int32) (0 : Int32)
  else
    some (-1 : Int32)
noncomputable def f_X11_cameBefore (x1 : Int32) (M : Mem) : Option Int32 :=
  f_X11_cameBefore_2 x1 M FU (0 : Int32)
set_option maxRecDepth 20000 in
set_option maxHeartbeats 2000000 in
theorem b_X11_cameBefore_12 {E : wEnv} {Y : YT} (C : Cx E Y cX11_cameBefore 5 RX11 0) {q : Int32} {M : Mem} (R : Rx E Y (some .int) (some (.int q)) M) {x1 : Int32} {x2 : Int32} {k64 : Int32 → Option Int32} (hk64 : ∀ {x3 : Int32} , k64 x3 = some q → G E Y 5 M 64 [(0, .ref (ad E 50 0)), (1, .int x1), (2, .int x2), (3, .int x3)] []) (n : Nat) : ∀ {x3 : Int32} {x4 : Int32} (_ : f_X11_cameBefore_12 k64 x1 x2 M n x3 x4 = some q), G E Y 5 M 12 [(0, .ref (ad E 50 0)), (1, .int x1), (2, .int x2), (3, .int x3), (4, .int x4)] [] := by
  induction n with
  | zero =>
    intro x3 x4 h
    cases (show none = some q from h)
  | succ n ih =>
    intro x3 x4 h
    rw [f_X11_cameBefore_12] at h
    refine g_iload C dX11_cameBefore_12 rfl ?_
    refine g_aload_n C dX11_cameBefore_14 rfl rfl ?_
    refine get_X11_35 C dX11_cameBefore_15 (by decide) ?_
    refine g_iconst (v := (0 : Int32)) C dX11_cameBefore_18 (by decide) ?_
    refine ld_55 (j := 0) C dX11_cameBefore_19 (by decide) (by decide) rfl ?_
    refine g_icmp_ge (tgt := 64) C dX11_cameBefore_20 (by decide) h (fun h => ?_) (fun h => ?_)
    · exact g_sub (hk64 h) ⟨rfl, rfl, rfl, rfl, trivial⟩
    · refine g_iload_n C dX11_cameBefore_23 rfl rfl ?_
      refine g_if_eq (tgt := 64) C dX11_cameBefore_24 (by decide) h (fun h => ?_) (fun h => ?_)
      · exact g_sub (hk64 h) ⟨rfl, rfl, rfl, rfl, trivial⟩
      · refine g_aload_n C dX11_cameBefore_27 rfl rfl ?_
        refine get_X11_44 C dX11_cameBefore_28 (by decide) ?_
        refine g_bipush (v := (10 : Int32)) C dX11_cameBefore_31 (by decide) ?_
        refine g_iload_n C dX11_cameBefore_33 rfl rfl ?_
        refine g_imul C dX11_cameBefore_34 ?_
        refine g_iload C dX11_cameBefore_35 rfl ?_
        refine g_iadd C dX11_cameBefore_37 ?_
        obtain ⟨hb1, h⟩ := of_ite h
        refine ld_58 (j := _) C dX11_cameBefore_38 (by decide) hb1 rfl ?_
        refine g_aload_n C dX11_cameBefore_39 rfl rfl ?_
        refine get_X11_35 C dX11_cameBefore_40 (by decide) ?_
        refine g_bipush (v := (42 : Int32)) C dX11_cameBefore_43 (by decide) ?_
        refine g_iload C dX11_cameBefore_45 rfl ?_
        refine g_iadd C dX11_cameBefore_47 ?_
        obtain ⟨hb2, h⟩ := of_ite h
        refine ld_55 (j := _) C dX11_cameBefore_48 (by decide) hb2 rfl ?_
        refine g_icmp_ne (tgt := 56) C dX11_cameBefore_49 (by decide) h (fun h => ?_) (fun h => ?_)
        · refine g_iconst (v := (0 : Int32)) C dX11_cameBefore_56 (by decide) ?_
          refine g_istore_n C dX11_cameBefore_57 rfl rfl ?_
          refine g_iinc (w := (1 : Int32)) C dX11_cameBefore_58 rfl (by decide) rfl ?_
          refine g_goto (tgt := 12) C dX11_cameBefore_61 (by decide) ?_
          exact g_sub (ih h) ⟨rfl, rfl, rfl, rfl, rfl, trivial⟩
        · refine g_iconst (v := (1 : Int32)) C dX11_cameBefore_52 (by decide) ?_
          refine g_goto (tgt := 57) C dX11_cameBefore_53 (by decide) ?_
          refine g_istore_n C dX11_cameBefore_57 rfl rfl ?_
          refine g_iinc (w := (1 : Int32)) C dX11_cameBefore_58 rfl (by decide) rfl ?_
          refine g_goto (tgt := 12) C dX11_cameBefore_61 (by decide) ?_
          exact g_sub (ih h) ⟨rfl, rfl, rfl, rfl, rfl, trivial⟩
set_option maxRecDepth 20000 in
set_option maxHeartbeats 2000000 in
theorem b_X11_cameBefore_2 {E : wEnv} {Y : YT} (C : Cx E Y cX11_cameBefore 5 RX11 0) {q : Int32} {M : Mem} (R : Rx E Y (some .int) (some (.int q)) M) {x1 : Int32} (n : Nat) : ∀ {x2 : Int32} (_ : f_X11_cameBefore_2 x1 M n x2 = some q), G E Y 5 M 2 [(0, .ref (ad E 50 0)), (1, .int x1), (2, .int x2)] [] := by
  induction n with
  | zero =>
    intro x2 h
    cases (show none = some q from h)
  | succ n ih =>
    intro x2 h
    rw [f_X11_cameBefore_2] at h
    refine g_iload_n C dX11_cameBefore_2 rfl rfl ?_
    refine g_iload_n C dX11_cameBefore_3 rfl rfl ?_
    refine g_icmp_ge (tgt := 76) C dX11_cameBefore_4 (by decide) h (fun h => ?_) (fun h => ?_)
    · refine g_iconst (v := (-1 : Int32)) C dX11_cameBefore_76 (by decide) ?_
      exact g_iret C R dX11_cameBefore_77 (Option.some.inj h) rfl
    · refine g_iconst (v := (1 : Int32)) C dX11_cameBefore_7 (by decide) ?_
      refine g_istore_n C dX11_cameBefore_8 rfl rfl ?_
      refine g_iconst (v := (0 : Int32)) C dX11_cameBefore_9 (by decide) ?_
      refine g_istore C dX11_cameBefore_10 rfl ?_
      refine g_sub (b_X11_cameBefore_12 C R ?_ _ h) ⟨rfl, rfl, rfl, rfl, rfl, trivial⟩
      · clear h
        intro x3_3 h
        refine g_iload_n C dX11_cameBefore_64 rfl rfl ?_
        refine g_if_eq (tgt := 70) C dX11_cameBefore_65 (by decide) h (fun h => ?_) (fun h => ?_)
        · refine g_iinc (w := (1 : Int32)) C dX11_cameBefore_70 rfl (by decide) rfl ?_
          refine g_goto (tgt := 2) C dX11_cameBefore_73 (by decide) ?_
          exact g_sub (ih h) ⟨rfl, rfl, rfl, trivial⟩
        · refine g_iload_n C dX11_cameBefore_68 rfl rfl ?_
          exact g_iret C R dX11_cameBefore_69 (Option.some.inj h) rfl
set_option maxRecDepth 20000 in
set_option maxHeartbeats 2000000 in
theorem c_X11_cameBefore (E : wEnv) {x1 : Int32} {M : Mem} {q : Int32} (h : f_X11_cameBefore x1 M = some q) : Mt E yX11_cameBefore cX11_cameBefore 5 (some .int) 0 [.ref (ad E 50 0), .int x1] M (some (.int q)) M := by
  unfold f_X11_cameBefore at h
  refine mt_intro (own := RX11) (lv0 := [(0, .ref (ad E 50 0)), (1, .int x1)]) (by decide) rfl rfl rfl (fun Y C R => ?_)
  refine g_iconst (v := (0 : Int32)) C dX11_cameBefore_0 (by decide) ?_
  refine g_istore_n C dX11_cameBefore_1 rfl rfl ?_
  exact g_sub (b_X11_cameBefore_2 C R _ h) ⟨rfl, rfl, rfl, trivial⟩
noncomputable def f_X11_settles_111 (x1 : Int32) (x2 : Int32) (x3 : Int32) (M : Mem) : Option (Int32 × Mem) :=
  (f_X11_gives M).bind fun M5 =>
  if x2 < 0 then
    (f_X11_refuse (8 : Int32) M5).bind fun q6 =>
    some (q6.1, q6.2)
  else
    if x1 = 0 then
      some (x2, M5)
    else
      some ((x3 - x2), M5)
noncomputable def f_X11_settles_48 (k87 : Mem → Option (Int32 × Mem)) (x1 : Int32) (x2 : Int32) (x3 : Int32) : Nat → Int32 → Mem → Option (Int32 × Mem)
  | 0, _, _ => none
  | n + 1, x4, M =>
  if x4 < (M.1 55 0 0) then
    if inb ((42 : Int32) + x4) 2375 = true then
     if inb (((10 : Int32) * x3) + x4) 2010 = true then
      let M9 := sR M 58 0 (upd (M.1 58 0) ((((10 : Int32) * x3) + x4).toNatClampNeg) (M.1 55 0 (((42 : Int32) + x4).toNatClampNeg)))
      f_X11_settles_48 k87 x1 x2 x3 n (x4 + (1 : Int32)) M9
     else none
    else none
  else
    k87 M
noncomputable def f_X11_settles_34 (x1 : Int32) : Nat → Int32 → Int32 → Mem → Option (Int32 × Mem)
  | 0, _, _, _ => none
  | n + 1, x2, x3, M =>
  if x2 < 0 then
    if (200 : Int32) < x3 then
      f_X11_settles_111 x1 x2 x3 M
    else
      f_X11_settles_48 (fun M_10 =>
          (f_X11_talks (0 : Int32) M_10).bind fun M11 =>
          if (200 : Int32) < (x3 + (1 : Int32)) then
            f_X11_settles_34 x1 n x2 (x3 + (1 : Int32)) M11
          else
            (f_X11_cameBefore (x3 + (1 : Int32)) M11).bind fun r12 =>
            f_X11_settles_34 x1 n r12 (x3 + (1 : Int32)) M11) x1 x2 x3 FU (0 : Int32) M
  else
    f_X11_settles_111 x1 x2 x3 M
noncomputable def f_X11_settles (x1 : Int32) (M : Mem) : Option (Int32 × Mem) :=
  let M1 := sR M 50 0 (upd (M.1 50 0) 1 (0 : Int32))
  let M2 := sR M1 50 0 (upd (M1.1 50 0) 0 (0 : Int32))
  (f_X11_isIn x1.toInt64 (0 : Int64) (1 : Int64)).bind fun r3 =>
  if r3 = 0 then
    (f_X11_refuse (5 : Int32) M2).bind fun q13 =>
    some (q13.1, q13.2)
  else
    (f_X11_keeps M2).bind fun M4 =>
    f_X11_settles_34 x1 FU (-1 : Int32) (0 : Int32) M4
set_option maxRecDepth 20000 in
set_option maxHeartbeats 2000000 in
theorem b_X11_settles_111 {E : wEnv} {Y : YT} (C : Cx E Y cX11_settles 5 RX11 4) {q : (Int32 × Mem)} (R : Rx E Y (some .int) (some (.int q.1)) q.2) {x1 : Int32} {x2 : Int32} {x3 : Int32} {M : Mem} (h : f_X11_settles_111 x1 x2 x3 M = some q) : G E Y 5 M 111 [(0, .ref (ad E 50 0)), (1, .int x1), (2, .int x2), (3, .int x3)] [] := by
  unfold f_X11_settles_111 at h
  refine g_aload_n C dX11_settles_111 rfl rfl ?_
  obtain ⟨M5, hr5, h⟩ := Option.bind_eq_some_iff.mp h
  refine call_X11_417 C dX11_settles_112 (by decide) (c_X11_gives E hr5) (by decide) rfl ?_
  refine g_iload_n C dX11_settles_115 rfl rfl ?_
  refine g_if_ge (tgt := 126) C dX11_settles_116 (by decide) h (fun h => ?_) (fun h => ?_)
  · refine g_iload_n C dX11_settles_126 rfl rfl ?_
    refine g_if_ne (tgt := 134) C dX11_settles_127 (by decide) h (fun h => ?_) (fun h => ?_)
    · refine g_iload_n C dX11_settles_134 rfl rfl ?_
      refine g_iload_n C dX11_settles_135 rfl rfl ?_
      refine g_isub C dX11_settles_136 ?_
      exact g_iret C R dX11_settles_137 (fst_of h) (snd_of h)
    · refine g_iload_n C dX11_settles_130 rfl rfl ?_
      refine g_goto (tgt := 137) C dX11_settles_131 (by decide) ?_
      exact g_iret C R dX11_settles_137 (fst_of h) (snd_of h)
  · refine g_aload_n C dX11_settles_119 rfl rfl ?_
    refine g_bipush (v := (8 : Int32)) C dX11_settles_120 (by decide) ?_
    obtain ⟨q6, hr6, h⟩ := Option.bind_eq_some_iff.mp h
    refine call_X11_340 C dX11_settles_122 (by decide) (c_X11_refuse E hr6) (by decide) rfl ?_
    exact g_iret C R dX11_settles_125 (fst_of h) (snd_of h)
set_option maxRecDepth 20000 in
set_option maxHeartbeats 2000000 in
theorem b_X11_settles_48 {E : wEnv} {Y : YT} (C : Cx E Y cX11_settles 5 RX11 4) {q : (Int32 × Mem)} (R : Rx E Y (some .int) (some (.int q.1)) q.2) {x1 : Int32} {x2 : Int32} {x3 : Int32} {k87 : Mem → Option (Int32 × Mem)} (hk87 : ∀ {M : Mem} , k87 M = some q → G E Y 5 M 87 [(0, .ref (ad E 50 0)), (1, .int x1), (2, .int x2), (3, .int x3)] []) (n : Nat) : ∀ {x4 : Int32} {M : Mem} (_ : f_X11_settles_48 k87 x1 x2 x3 n x4 M = some q), G E Y 5 M 48 [(0, .ref (ad E 50 0)), (1, .int x1), (2, .int x2), (3, .int x3), (4, .int x4)] [] := by
  induction n with
  | zero =>
    intro x4 M h
    cases (show none = some q from h)
  | succ n ih =>
    intro x4 M h
    rw [f_X11_settles_48] at h
    refine g_iload C dX11_settles_48 rfl ?_
    refine g_aload_n C dX11_settles_50 rfl rfl ?_
    refine get_X11_35 C dX11_settles_51 (by decide) ?_
    refine g_iconst (v := (0 : Int32)) C dX11_settles_54 (by decide) ?_
    refine ld_55 (j := 0) C dX11_settles_55 (by decide) (by decide) rfl ?_
    refine g_icmp_ge (tgt := 87) C dX11_settles_56 (by decide) h (fun h => ?_) (fun h => ?_)
    · exact g_sub (hk87 h) ⟨rfl, rfl, rfl, rfl, trivial⟩
    · refine g_aload_n C dX11_settles_59 rfl rfl ?_
      refine get_X11_44 C dX11_settles_60 (by decide) ?_
      refine g_bipush (v := (10 : Int32)) C dX11_settles_63 (by decide) ?_
      refine g_iload_n C dX11_settles_65 rfl rfl ?_
      refine g_imul C dX11_settles_66 ?_
      refine g_iload C dX11_settles_67 rfl ?_
      refine g_iadd C dX11_settles_69 ?_
      refine g_aload_n C dX11_settles_70 rfl rfl ?_
      refine get_X11_35 C dX11_settles_71 (by decide) ?_
      refine g_bipush (v := (42 : Int32)) C dX11_settles_74 (by decide) ?_
      refine g_iload C dX11_settles_76 rfl ?_
      refine g_iadd C dX11_settles_78 ?_
      obtain ⟨hb7, h⟩ := of_ite h
      refine ld_55 (j := _) C dX11_settles_79 (by decide) hb7 rfl ?_
      obtain ⟨hb8, h⟩ := of_ite h
      refine st_58 (j := _) C dX11_settles_80 (by decide) hb8 rfl ?_
      refine g_iinc (w := (1 : Int32)) C dX11_settles_81 rfl (by decide) rfl ?_
      refine g_goto (tgt := 48) C dX11_settles_84 (by decide) ?_
      exact g_sub (ih h) ⟨rfl, rfl, rfl, rfl, rfl, trivial⟩
set_option maxRecDepth 20000 in
set_option maxHeartbeats 2000000 in
theorem b_X11_settles_34 {E : wEnv} {Y : YT} (C : Cx E Y cX11_settles 5 RX11 4) {q : (Int32 × Mem)} (R : Rx E Y (some .int) (some (.int q.1)) q.2) {x1 : Int32} (n : Nat) : ∀ {x2 : Int32} {x3 : Int32} {M : Mem} (_ : f_X11_settles_34 x1 n x2 x3 M = some q), G E Y 5 M 34 [(0, .ref (ad E 50 0)), (1, .int x1), (2, .int x2), (3, .int x3)] [] := by
  induction n with
  | zero =>
    intro x2 x3 M h
    cases (show none = some q from h)
  | succ n ih =>
    intro x2 x3 M h
    rw [f_X11_settles_34] at h
    refine g_iload_n C dX11_settles_34 rfl rfl ?_
    refine g_if_ge (tgt := 111) C dX11_settles_35 (by decide) h (fun h => ?_) (fun h => ?_)
    · exact g_sub (b_X11_settles_111 C R h) ⟨rfl, rfl, rfl, rfl, trivial⟩
    · refine g_iload_n C dX11_settles_38 rfl rfl ?_
      refine g_sipush (v := (200 : Int32)) C dX11_settles_39 (by decide) ?_
      refine g_icmp_gt (tgt := 111) C dX11_settles_42 (by decide) h (fun h => ?_) (fun h => ?_)
      · exact g_sub (b_X11_settles_111 C R h) ⟨rfl, rfl, rfl, rfl, trivial⟩
      · refine g_iconst (v := (0 : Int32)) C dX11_settles_45 (by decide) ?_
        refine g_istore C dX11_settles_46 rfl ?_
        refine g_sub (b_X11_settles_48 C R ?_ _ h) ⟨rfl, rfl, rfl, rfl, rfl, trivial⟩
        · clear h
          intro M_10 h
          refine g_aload_n C dX11_settles_87 rfl rfl ?_
          refine g_iconst (v := (0 : Int32)) C dX11_settles_88 (by decide) ?_
          obtain ⟨M11, hr11, h⟩ := Option.bind_eq_some_iff.mp h
          refine call_X11_377 C dX11_settles_89 (by decide) (c_X11_talks E hr11) (by decide) rfl ?_
          refine g_iinc (w := (1 : Int32)) C dX11_settles_92 rfl (by decide) rfl ?_
          refine g_iload_n C dX11_settles_95 rfl rfl ?_
          refine g_sipush (v := (200 : Int32)) C dX11_settles_96 (by decide) ?_
          refine g_icmp_gt (tgt := 34) C dX11_settles_99 (by decide) h (fun h => ?_) (fun h => ?_)
          · exact g_sub (ih h) ⟨rfl, rfl, rfl, rfl, trivial⟩
          · refine g_aload_n C dX11_settles_102 rfl rfl ?_
            refine g_iload_n C dX11_settles_103 rfl rfl ?_
            obtain ⟨r12, hr12, h⟩ := Option.bind_eq_some_iff.mp h
            refine call_X11_414 C dX11_settles_104 (by decide) (c_X11_cameBefore E hr12) (by decide) rfl ?_
            refine g_istore_n C dX11_settles_107 rfl rfl ?_
            refine g_goto (tgt := 34) C dX11_settles_108 (by decide) ?_
            exact g_sub (ih h) ⟨rfl, rfl, rfl, rfl, trivial⟩
set_option maxRecDepth 20000 in
set_option maxHeartbeats 2000000 in
theorem c_X11_settles (E : wEnv) {x1 : Int32} {M : Mem} {q : (Int32 × Mem)} (h : f_X11_settles x1 M = some q) : Mt E yX11_settles cX11_settles 5 (some .int) 4 [.ref (ad E 50 0), .int x1] M (some (.int q.1)) q.2 := by
  unfold f_X11_settles at h
  refine mt_intro (own := RX11) (lv0 := [(0, .ref (ad E 50 0)), (1, .int x1)]) (by decide) rfl rfl rfl (fun Y C R => ?_)
  refine g_aload_n C dX11_settles_0 rfl rfl ?_
  refine g_iconst (v := (0 : Int32)) C dX11_settles_1 (by decide) ?_
  refine put_X11_71 C dX11_settles_2 (by decide) ?_
  refine g_aload_n C dX11_settles_5 rfl rfl ?_
  refine g_iconst (v := (0 : Int32)) C dX11_settles_6 (by decide) ?_
  refine put_X11_74 C dX11_settles_7 (by decide) ?_
  refine g_iload_n C dX11_settles_10 rfl rfl ?_
  refine g_i2l C dX11_settles_11 ?_
  refine g_lconst (v := (0 : Int64)) C dX11_settles_12 (by decide) ?_
  refine g_lconst (v := (1 : Int64)) C dX11_settles_13 (by decide) ?_
  obtain ⟨r3, hr3, h⟩ := Option.bind_eq_some_iff.mp h
  refine call_X11_106 C dX11_settles_14 (c_X11_isIn E hr3) (by decide) rfl ?_
  refine g_if_ne (tgt := 26) C dX11_settles_17 (by decide) h (fun h => ?_) (fun h => ?_)
  · refine g_aload_n C dX11_settles_26 rfl rfl ?_
    obtain ⟨M4, hr4, h⟩ := Option.bind_eq_some_iff.mp h
    refine call_X11_411 C dX11_settles_27 (by decide) (c_X11_keeps E hr4) (by decide) rfl ?_
    refine g_iconst (v := (-1 : Int32)) C dX11_settles_30 (by decide) ?_
    refine g_istore_n C dX11_settles_31 rfl rfl ?_
    refine g_iconst (v := (0 : Int32)) C dX11_settles_32 (by decide) ?_
    refine g_istore_n C dX11_settles_33 rfl rfl ?_
    exact g_sub (b_X11_settles_34 C R _ h) ⟨rfl, rfl, rfl, rfl, trivial⟩
  · refine g_aload_n C dX11_settles_20 rfl rfl ?_
    refine g_iconst (v := (5 : Int32)) C dX11_settles_21 (by decide) ?_
    obtain ⟨q13, hr13, h⟩ := Option.bind_eq_some_iff.mp h
    refine call_X11_340 C dX11_settles_22 (by decide) (c_X11_refuse E hr13) (by decide) rfl ?_
    exact g_iret C R dX11_settles_25 (fst_of h) (snd_of h)
