noncomputable def f_X11_after (x1 : Int32) (M : Mem) : Option (Int32 × Mem) :=
  let M1 := sR M 50 0 (upd (M.1 50 0) 1 (0 : Int32))
  let M2 := sR M1 50 0 (upd (M1.1 50 0) 0 (0 : Int32))
  (f_X11_isIn x1.toInt64 (0 : Int64) (200 : Int64)).bind fun r3 =>
  if r3 = 0 then
    (f_X11_refuse (5 : Int32) M2).bind fun q8 =>
    some (q8.1, q8.2)
  else
    (f_X11_keeps M2).bind fun M4 =>
    (f_X11_talksFor x1 M4).bind fun M5 =>
    (f_X11_judged M5).bind fun r6 =>
    (f_X11_gives M5).bind fun M7 =>
    some (r6, M7)
set_option maxRecDepth 20000 in
set_option maxHeartbeats 2000000 in
theorem c_X11_after (E : wEnv) {x1 : Int32} {M : Mem} {q : (Int32 × Mem)} (h : f_X11_after x1 M = some q) : Mt E yX11_after cX11_after 3 (some .int) 5 [.ref (ad E 50 0), .int x1] M (some (.int q.1)) q.2 := by
  unfold f_X11_after at h
  refine mt_intro (own := RX11) (lv0 := [(0, .ref (ad E 50 0)), (1, .int x1)]) (by decide) rfl rfl rfl (fun Y C R => ?_)
  refine g_aload_n C dX11_after_0 rfl rfl ?_
  refine g_iconst (v := (0 : Int32)) C dX11_after_1 (by decide) ?_
  refine put_X11_71 C dX11_after_2 (by decide) ?_
  refine g_aload_n C dX11_after_5 rfl rfl ?_
  refine g_iconst (v := (0 : Int32)) C dX11_after_6 (by decide) ?_
  refine put_X11_74 C dX11_after_7 (by decide) ?_
  refine g_iload_n C dX11_after_10 rfl rfl ?_
  refine g_i2l C dX11_after_11 ?_
  refine g_lconst (v := (0 : Int64)) C dX11_after_12 (by decide) ?_
  refine g_ldc2 C dX11_after_13 qc_X11_420 ?_
  obtain ⟨r3, hr3, h⟩ := Option.bind_eq_some_iff.mp h
  refine call_X11_106 C dX11_after_16 (c_X11_isIn E hr3) (by decide) rfl ?_
  refine g_if_ne (tgt := 28) C dX11_after_19 (by decide) h (fun h => ?_) (fun h => ?_)
  · refine g_aload_n C dX11_after_28 rfl rfl ?_
    obtain ⟨M4, hr4, h⟩ := Option.bind_eq_some_iff.mp h
    refine call_X11_411 C dX11_after_29 (by decide) (c_X11_keeps E hr4) (by decide) rfl ?_
    refine g_aload_n C dX11_after_32 rfl rfl ?_
    refine g_iload_n C dX11_after_33 rfl rfl ?_
    obtain ⟨M5, hr5, h⟩ := Option.bind_eq_some_iff.mp h
    refine call_X11_386 C dX11_after_34 (by decide) (c_X11_talksFor E hr5) (by decide) rfl ?_
    refine g_aload_n C dX11_after_37 rfl rfl ?_
    obtain ⟨r6, hr6, h⟩ := Option.bind_eq_some_iff.mp h
    refine call_X11_389 C dX11_after_38 (by decide) (c_X11_judged E hr6) (by decide) rfl ?_
    refine g_istore_n C dX11_after_41 rfl rfl ?_
    refine g_aload_n C dX11_after_42 rfl rfl ?_
    obtain ⟨M7, hr7, h⟩ := Option.bind_eq_some_iff.mp h
    refine call_X11_417 C dX11_after_43 (by decide) (c_X11_gives E hr7) (by decide) rfl ?_
    refine g_iload_n C dX11_after_46 rfl rfl ?_
    exact g_iret C R dX11_after_47 (fst_of h) (snd_of h)
  · refine g_aload_n C dX11_after_22 rfl rfl ?_
    refine g_iconst (v := (5 : Int32)) C dX11_after_23 (by decide) ?_
    obtain ⟨q8, hr8, h⟩ := Option.bind_eq_some_iff.mp h
    refine call_X11_340 C dX11_after_24 (by decide) (c_X11_refuse E hr8) (by decide) rfl ?_
    exact g_iret C R dX11_after_27 (fst_of h) (snd_of h)
noncomputable def f_X11_isVerdict (l0 : Int64) : Option Int32 :=
  (f_X11_isIn l0 (-1 : Int64) (1 : Int64)).bind fun r1 =>
  if isB r1 = true then some r1 else none
set_option maxRecDepth 20000 in
set_option maxHeartbeats 2000000 in
theorem c_X11_isVerdict (E : wEnv) {l0 : Int64} {M : Mem} {q : Int32} (h : f_X11_isVerdict l0 = some q) : Mt E yX11_isVerdict cX11_isVerdict 2 (some .boolean) 1 [.long l0] M (some (.int q)) M := by
  unfold f_X11_isVerdict at h
  refine mt_intro (own := RX11) (lv0 := [(0, .long l0)]) (by decide) rfl rfl rfl (fun Y C R => ?_)
  refine g_lload_n C dX11_isVerdict_0 rfl rfl ?_
  refine g_ldc2 C dX11_isVerdict_1 qc_X11_102 ?_
  refine g_lconst (v := (1 : Int64)) C dX11_isVerdict_4 (by decide) ?_
  obtain ⟨r1, hr1, h⟩ := Option.bind_eq_some_iff.mp h
  refine call_X11_106 C dX11_isVerdict_5 (c_X11_isIn E hr1) (by decide) rfl ?_
  obtain ⟨hz2, h⟩ := of_ite h
  exact g_zret C R dX11_isVerdict_8 (Option.some.inj h) (isB_of hz2) rfl
noncomputable def f_X11_soonest_56 (x2 : Int32) (M : Mem) : Option (Int32 × Mem) :=
  (f_X11_gives M).bind fun M5 =>
  if (200 : Int32) < x2 then
    (f_X11_refuse (8 : Int32) M5).bind fun q6 =>
    some (q6.1, q6.2)
  else
    some (x2, M5)
noncomputable def f_X11_soonest_30 (x1 : Int32) : Nat → Int32 → Mem → Option (Int32 × Mem)
  | 0, _, _ => none
  | n + 1, x2, M =>
  if (200 : Int32) < x2 then
    f_X11_soonest_56 x2 M
  else
    (f_X11_judged M).bind fun r7 =>
    if r7 = x1 then
      f_X11_soonest_56 x2 M
    else
      (f_X11_talks (1 : Int32) M).bind fun M8 =>
      f_X11_soonest_30 x1 n (x2 + (1 : Int32)) M8
noncomputable def f_X11_soonest (x1 : Int32) (M : Mem) : Option (Int32 × Mem) :=
  let M1 := sR M 50 0 (upd (M.1 50 0) 1 (0 : Int32))
  let M2 := sR M1 50 0 (upd (M1.1 50 0) 0 (0 : Int32))
  (f_X11_isVerdict x1.toInt64).bind fun r3 =>
  if r3 = 0 then
    (f_X11_refuse (5 : Int32) M2).bind fun q9 =>
    some (q9.1, q9.2)
  else
    (f_X11_keeps M2).bind fun M4 =>
    f_X11_soonest_30 x1 FU (0 : Int32) M4
set_option maxRecDepth 20000 in
set_option maxHeartbeats 2000000 in
theorem b_X11_soonest_56 {E : wEnv} {Y : YT} (C : Cx E Y cX11_soonest 3 RX11 4) {q : (Int32 × Mem)} (R : Rx E Y (some .int) (some (.int q.1)) q.2) {x2 : Int32} {M : Mem} (h : f_X11_soonest_56 x2 M = some q) : G E Y 3 M 56 [(0, .ref (ad E 50 0)), (2, .int x2)] [] := by
  unfold f_X11_soonest_56 at h
  refine g_aload_n C dX11_soonest_56 rfl rfl ?_
  obtain ⟨M5, hr5, h⟩ := Option.bind_eq_some_iff.mp h
  refine call_X11_417 C dX11_soonest_57 (by decide) (c_X11_gives E hr5) (by decide) rfl ?_
  refine g_iload_n C dX11_soonest_60 rfl rfl ?_
  refine g_sipush (v := (200 : Int32)) C dX11_soonest_61 (by decide) ?_
  refine g_icmp_le (tgt := 76) C dX11_soonest_64 (by decide) h (fun h => ?_) (fun h => ?_)
  · refine g_iload_n C dX11_soonest_76 rfl rfl ?_
    exact g_iret C R dX11_soonest_77 (fst_of h) (snd_of h)
  · refine g_aload_n C dX11_soonest_67 rfl rfl ?_
    refine g_bipush (v := (8 : Int32)) C dX11_soonest_68 (by decide) ?_
    obtain ⟨q6, hr6, h⟩ := Option.bind_eq_some_iff.mp h
    refine call_X11_340 C dX11_soonest_70 (by decide) (c_X11_refuse E hr6) (by decide) rfl ?_
    refine g_goto (tgt := 77) C dX11_soonest_73 (by decide) ?_
    exact g_iret C R dX11_soonest_77 (fst_of h) (snd_of h)
set_option maxRecDepth 20000 in
set_option maxHeartbeats 2000000 in
theorem b_X11_soonest_30 {E : wEnv} {Y : YT} (C : Cx E Y cX11_soonest 3 RX11 4) {q : (Int32 × Mem)} (R : Rx E Y (some .int) (some (.int q.1)) q.2) {x1 : Int32} (n : Nat) : ∀ {x2 : Int32} {M : Mem} (_ : f_X11_soonest_30 x1 n x2 M = some q), G E Y 3 M 30 [(0, .ref (ad E 50 0)), (1, .int x1), (2, .int x2)] [] := by
  induction n with
  | zero =>
    intro x2 M h
    cases (show none = some q from h)
  | succ n ih =>
    intro x2 M h
    rw [f_X11_soonest_30] at h
    refine g_iload_n C dX11_soonest_30 rfl rfl ?_
    refine g_sipush (v := (200 : Int32)) C dX11_soonest_31 (by decide) ?_
    refine g_icmp_gt (tgt := 56) C dX11_soonest_34 (by decide) h (fun h => ?_) (fun h => ?_)
    · exact g_sub (b_X11_soonest_56 C R h) ⟨rfl, rfl, trivial⟩
    · refine g_aload_n C dX11_soonest_37 rfl rfl ?_
      obtain ⟨r7, hr7, h⟩ := Option.bind_eq_some_iff.mp h
      refine call_X11_389 C dX11_soonest_38 (by decide) (c_X11_judged E hr7) (by decide) rfl ?_
      refine g_iload_n C dX11_soonest_41 rfl rfl ?_
      refine g_icmp_eq (tgt := 56) C dX11_soonest_42 (by decide) h (fun h => ?_) (fun h => ?_)
      · exact g_sub (b_X11_soonest_56 C R h) ⟨rfl, rfl, trivial⟩
      · refine g_aload_n C dX11_soonest_45 rfl rfl ?_
        refine g_iconst (v := (1 : Int32)) C dX11_soonest_46 (by decide) ?_
        obtain ⟨M8, hr8, h⟩ := Option.bind_eq_some_iff.mp h
        refine call_X11_377 C dX11_soonest_47 (by decide) (c_X11_talks E hr8) (by decide) rfl ?_
        refine g_iinc (w := (1 : Int32)) C dX11_soonest_50 rfl (by decide) rfl ?_
        refine g_goto (tgt := 30) C dX11_soonest_53 (by decide) ?_
        exact g_sub (ih h) ⟨rfl, rfl, rfl, trivial⟩
set_option maxRecDepth 20000 in
set_option maxHeartbeats 2000000 in
theorem c_X11_soonest (E : wEnv) {x1 : Int32} {M : Mem} {q : (Int32 × Mem)} (h : f_X11_soonest x1 M = some q) : Mt E yX11_soonest cX11_soonest 3 (some .int) 4 [.ref (ad E 50 0), .int x1] M (some (.int q.1)) q.2 := by
  unfold f_X11_soonest at h
  refine mt_intro (own := RX11) (lv0 := [(0, .ref (ad E 50 0)), (1, .int x1)]) (by decide) rfl rfl rfl (fun Y C R => ?_)
  refine g_aload_n C dX11_soonest_0 rfl rfl ?_
  refine g_iconst (v := (0 : Int32)) C dX11_soonest_1 (by decide) ?_
  refine put_X11_71 C dX11_soonest_2 (by decide) ?_
  refine g_aload_n C dX11_soonest_5 rfl rfl ?_
  refine g_iconst (v := (0 : Int32)) C dX11_soonest_6 (by decide) ?_
  refine put_X11_74 C dX11_soonest_7 (by decide) ?_
  refine g_iload_n C dX11_soonest_10 rfl rfl ?_
  refine g_i2l C dX11_soonest_11 ?_
  obtain ⟨r3, hr3, h⟩ := Option.bind_eq_some_iff.mp h
  refine call_X11_422 C dX11_soonest_12 (c_X11_isVerdict E hr3) (by decide) rfl ?_
  refine g_if_ne (tgt := 24) C dX11_soonest_15 (by decide) h (fun h => ?_) (fun h => ?_)
  · refine g_aload_n C dX11_soonest_24 rfl rfl ?_
    obtain ⟨M4, hr4, h⟩ := Option.bind_eq_some_iff.mp h
    refine call_X11_411 C dX11_soonest_25 (by decide) (c_X11_keeps E hr4) (by decide) rfl ?_
    refine g_iconst (v := (0 : Int32)) C dX11_soonest_28 (by decide) ?_
    refine g_istore_n C dX11_soonest_29 rfl rfl ?_
    exact g_sub (b_X11_soonest_30 C R _ h) ⟨rfl, rfl, rfl, trivial⟩
  · refine g_aload_n C dX11_soonest_18 rfl rfl ?_
    refine g_iconst (v := (5 : Int32)) C dX11_soonest_19 (by decide) ?_
    obtain ⟨q9, hr9, h⟩ := Option.bind_eq_some_iff.mp h
    refine call_X11_340 C dX11_soonest_20 (by decide) (c_X11_refuse E hr9) (by decide) rfl ?_
    exact g_iret C R dX11_soonest_23 (fst_of h) (snd_of h)
noncomputable def f_X11_orders_122 (rec : Int32 → Int32 → Int32 → Mem → Option (Int32 × Mem)) (k156 : Mem → Option (Int32 × Mem)) (x1 : Int32) (x2 : Int32) (x3 : Int32) (x4 : Int32) (x5 : Int32) : Nat → Int32 → Mem → Option (Int32 × Mem)
  | 0, _, _ => none
  | n + 1, x6, M =>
  if x6 < (198 : Int32) then
    if inb (((198 : Int32) * x2) + x6) 990 = true then
     if inb x6 2375 = true then
      let M9 := sR M 55 0 (upd (M.1 55 0) x6.toNatClampNeg (M.1 61 0 ((((198 : Int32) * x2) + x6).toNatClampNeg)))
      f_X11_orders_122 rec k156 x1 x2 x3 x4 x5 n (x6 + (1 : Int32)) M9
     else none
    else none
  else
    k156 M
noncomputable def f_X11_orders_59 (rec : Int32 → Int32 → Int32 → Mem → Option (Int32 × Mem)) (x1 : Int32) (x2 : Int32) (x3 : Int32) : Nat → Int32 → Mem → Option (Int32 × Mem)
  | 0, _, _ => none
  | n + 1, x4, M =>
  if x4 < (M.1 55 0 1) then
    (f_X11_has (M.1 55 0 11) x4).bind fun r1 =>
    if r1 = 0 then
      if inb x2 4 = true then
       let M3 := sR M 59 0 (upd (M.1 59 0) x2.toNatClampNeg x4)
       (f_X11_showsOne x4 M3).bind fun q4 =>
       (f_X11_talks (1 : Int32) q4.2).bind fun M5 =>
       (rec x1 (x2 + (1 : Int32)) x3 M5).bind fun q6 =>
       f_X11_orders_122 rec (fun M_10 =>
           if q6.1 = 0 then
             f_X11_orders_59 rec x1 x2 x3 n (x4 + (1 : Int32)) M_10
           else
             some ((1 : Int32), M_10)) x1 x2 x3 x4 q6.1 FU (0 : Int32) q6.2
      else none
    else
      f_X11_orders_59 rec x1 x2 x3 n (x4 + (1 : Int32)) M
  else
    some ((0 : Int32), M)
noncomputable def f_X11_orders_22 (rec : Int32 → Int32 → Int32 → Mem → Option (Int32 × Mem)) (x1 : Int32) (x2 : Int32) (x3 : Int32) : Nat → Int32 → Mem → Option (Int32 × Mem)
  | 0, _, _ => none
  | n + 1, x4, M =>
  if x4 < (198 : Int32) then
    if inb x4 2375 = true then
     if inb (((198 : Int32) * x2) + x4) 990 = true then
      let M13 := sR M 61 0 (upd (M.1 61 0) ((((198 : Int32) * x2) + x4).toNatClampNeg) (M.1 55 0 x4.toNatClampNeg))
      f_X11_orders_22 rec x1 x2 x3 n (x4 + (1 : Int32)) M13
     else none
    else none
  else
    f_X11_orders_59 rec x1 x2 x3 FU (0 : Int32) M
noncomputable def f_X11_orders : Nat → Int32 → Int32 → Int32 → Mem → Option (Int32 × Mem)
  | 0, _, _, _, _ => none
  | n + 1, x1, x2, x3, M =>
  if x2 = x3 then
    (f_X11_judged M).bind fun r14 =>
    if r14 = x1 then
      some ((1 : Int32), M)
    else
      some ((0 : Int32), M)
  else
    f_X11_orders_22 (f_X11_orders n) x1 x2 x3 FU (0 : Int32) M
set_option maxRecDepth 20000 in
set_option maxHeartbeats 2000000 in
theorem b_X11_orders_122 {E : wEnv} {Y : YT} {dd dr : Nat} {rec : Int32 → Int32 → Int32 → Mem → Option (Int32 × Mem)} (C : Cx E Y cX11_orders 7 RX11 dd) (hrec : ∀ {x1 : Int32} {x2 : Int32} {x3 : Int32} {M : Mem} {q : (Int32 × Mem)}, rec x1 x2 x3 M = some q → Mt E yX11_orders cX11_orders 7 (some .boolean) dr [.ref (ad E 50 0), .int x1, .int x2, .int x3] M (some (.int q.1)) q.2) (hdr : dr + 1 ≤ dd) (hdD : 4 ≤ dr) {q : (Int32 × Mem)} (R : Rx E Y (some .boolean) (some (.int q.1)) q.2) {x1 : Int32} {x2 : Int32} {x3 : Int32} {x4 : Int32} {x5 : Int32} {k156 : Mem → Option (Int32 × Mem)} (hk156 : ∀ {M : Mem} , k156 M = some q → G E Y 7 M 156 [(0, .ref (ad E 50 0)), (1, .int x1), (2, .int x2), (3, .int x3), (4, .int x4), (5, .int x5)] []) (n : Nat) : ∀ {x6 : Int32} {M : Mem} (_ : f_X11_orders_122 rec k156 x1 x2 x3 x4 x5 n x6 M = some q), G E Y 7 M 122 [(0, .ref (ad E 50 0)), (1, .int x1), (2, .int x2), (3, .int x3), (4, .int x4), (5, .int x5), (6, .int x6)] [] := by
  induction n with
  | zero =>
    intro x6 M h
    cases (show none = some q from h)
  | succ n ih =>
    intro x6 M h
    rw [f_X11_orders_122] at h
    refine g_iload C dX11_orders_122 rfl ?_
    refine g_sipush (v := (198 : Int32)) C dX11_orders_124 (by decide) ?_
    refine g_icmp_ge (tgt := 156) C dX11_orders_127 (by decide) h (fun h => ?_) (fun h => ?_)
    · exact g_sub (hk156 h) ⟨rfl, rfl, rfl, rfl, rfl, rfl, trivial⟩
    · refine g_aload_n C dX11_orders_130 rfl rfl ?_
      refine get_X11_35 C dX11_orders_131 (by decide) ?_
      refine g_iload C dX11_orders_134 rfl ?_
      refine g_aload_n C dX11_orders_136 rfl rfl ?_
      refine get_X11_53 C dX11_orders_137 (by decide) ?_
      refine g_sipush (v := (198 : Int32)) C dX11_orders_140 (by decide) ?_
      refine g_iload_n C dX11_orders_143 rfl rfl ?_
      refine g_imul C dX11_orders_144 ?_
      refine g_iload C dX11_orders_145 rfl ?_
      refine g_iadd C dX11_orders_147 ?_
      obtain ⟨hb7, h⟩ := of_ite h
      refine ld_61 (j := _) C dX11_orders_148 (by decide) hb7 rfl ?_
      obtain ⟨hb8, h⟩ := of_ite h
      refine st_55 (j := _) C dX11_orders_149 (by decide) hb8 rfl ?_
      refine g_iinc (w := (1 : Int32)) C dX11_orders_150 rfl (by decide) rfl ?_
      refine g_goto (tgt := 122) C dX11_orders_153 (by decide) ?_
      exact g_sub (ih h) ⟨rfl, rfl, rfl, rfl, rfl, rfl, rfl, trivial⟩
set_option maxRecDepth 20000 in
set_option maxHeartbeats 2000000 in
theorem b_X11_orders_59 {E : wEnv} {Y : YT} {dd dr : Nat} {rec : Int32 → Int32 → Int32 → Mem → Option (Int32 × Mem)} (C : Cx E Y cX11_orders 7 RX11 dd) (hrec : ∀ {x1 : Int32} {x2 : Int32} {x3 : Int32} {M : Mem} {q : (Int32 × Mem)}, rec x1 x2 x3 M = some q → Mt E yX11_orders cX11_orders 7 (some .boolean) dr [.ref (ad E 50 0), .int x1, .int x2, .int x3] M (some (.int q.1)) q.2) (hdr : dr + 1 ≤ dd) (hdD : 4 ≤ dr) {q : (Int32 × Mem)} (R : Rx E Y (some .boolean) (some (.int q.1)) q.2) {x1 : Int32} {x2 : Int32} {x3 : Int32} (n : Nat) : ∀ {x4 : Int32} {M : Mem} (_ : f_X11_orders_59 rec x1 x2 x3 n x4 M = some q), G E Y 7 M 59 [(0, .ref (ad E 50 0)), (1, .int x1), (2, .int x2), (3, .int x3), (4, .int x4)] [] := by
  induction n with
  | zero =>
    intro x4 M h
    cases (show none = some q from h)
  | succ n ih =>
    intro x4 M h
    rw [f_X11_orders_59] at h
    refine g_iload C dX11_orders_59 rfl ?_
    refine g_aload_n C dX11_orders_61 rfl rfl ?_
    refine get_X11_35 C dX11_orders_62 (by decide) ?_
    refine g_iconst (v := (1 : Int32)) C dX11_orders_65 (by decide) ?_
    refine ld_55 (j := 1) C dX11_orders_66 (by decide) (by decide) rfl ?_
    refine g_icmp_ge (tgt := 169) C dX11_orders_67 (by decide) h (fun h => ?_) (fun h => ?_)
    · refine g_iconst (v := (0 : Int32)) C dX11_orders_169 (by decide) ?_
      exact g_zret C R dX11_orders_170 (fst_of h) (Or.inl rfl) (snd_of h)
    · refine g_aload_n C dX11_orders_70 rfl rfl ?_
      refine get_X11_35 C dX11_orders_71 (by decide) ?_
      refine g_bipush (v := (11 : Int32)) C dX11_orders_74 (by decide) ?_
      refine ld_55 (j := 11) C dX11_orders_76 (by decide) (by decide) rfl ?_
      refine g_iload C dX11_orders_77 rfl ?_
      obtain ⟨r1, hr1, h⟩ := Option.bind_eq_some_iff.mp h
      refine call_X11_110 C dX11_orders_79 (c_X11_has E hr1) (by omega) rfl ?_
      refine g_if_eq (tgt := 88) C dX11_orders_82 (by decide) h (fun h => ?_) (fun h => ?_)
      · refine g_aload_n C dX11_orders_88 rfl rfl ?_
        refine get_X11_47 C dX11_orders_89 (by decide) ?_
        refine g_iload_n C dX11_orders_92 rfl rfl ?_
        refine g_iload C dX11_orders_93 rfl ?_
        obtain ⟨hb2, h⟩ := of_ite h
        refine st_59 (j := _) C dX11_orders_95 (by decide) hb2 rfl ?_
        refine g_aload_n C dX11_orders_96 rfl rfl ?_
        refine g_iload C dX11_orders_97 rfl ?_
        obtain ⟨q4, hr4, h⟩ := Option.bind_eq_some_iff.mp h
        refine call_X11_368 C dX11_orders_99 (by decide) (c_X11_showsOne E hr4) (by omega) rfl ?_
        refine g_pop C dX11_orders_102 rfl ?_
        refine g_aload_n C dX11_orders_103 rfl rfl ?_
        refine g_iconst (v := (1 : Int32)) C dX11_orders_104 (by decide) ?_
        obtain ⟨M5, hr5, h⟩ := Option.bind_eq_some_iff.mp h
        refine call_X11_377 C dX11_orders_105 (by decide) (c_X11_talks E hr5) (by omega) rfl ?_
        refine g_aload_n C dX11_orders_108 rfl rfl ?_
        refine g_iload_n C dX11_orders_109 rfl rfl ?_
        refine g_iload_n C dX11_orders_110 rfl rfl ?_
        refine g_iconst (v := (1 : Int32)) C dX11_orders_111 (by decide) ?_
        refine g_iadd C dX11_orders_112 ?_
        refine g_iload_n C dX11_orders_113 rfl rfl ?_
        obtain ⟨q6, hr6, h⟩ := Option.bind_eq_some_iff.mp h
        refine call_X11_425 C dX11_orders_114 (by decide) (hrec hr6) (by omega) rfl ?_
        refine g_istore C dX11_orders_117 rfl ?_
        refine g_iconst (v := (0 : Int32)) C dX11_orders_119 (by decide) ?_
        refine g_istore C dX11_orders_120 rfl ?_
        refine g_sub (b_X11_orders_122 C hrec hdr hdD R ?_ _ h) ⟨rfl, rfl, rfl, rfl, rfl, rfl, rfl, trivial⟩
        · clear h
          intro M_10 h
          refine g_iload C dX11_orders_156 rfl ?_
          refine g_if_eq (tgt := 163) C dX11_orders_158 (by decide) h (fun h => ?_) (fun h => ?_)
          · refine g_iinc (w := (1 : Int32)) C dX11_orders_163 rfl (by decide) rfl ?_
            refine g_goto (tgt := 59) C dX11_orders_166 (by decide) ?_
            exact g_sub (ih h) ⟨rfl, rfl, rfl, rfl, rfl, trivial⟩
          · refine g_iconst (v := (1 : Int32)) C dX11_orders_161 (by decide) ?_
            exact g_zret C R dX11_orders_162 (fst_of h) (Or.inr rfl) (snd_of h)
      · refine g_goto (tgt := 163) C dX11_orders_85 (by decide) ?_
        refine g_iinc (w := (1 : Int32)) C dX11_orders_163 rfl (by decide) rfl ?_
        refine g_goto (tgt := 59) C dX11_orders_166 (by decide) ?_
        exact g_sub (ih h) ⟨rfl, rfl, rfl, rfl, rfl, trivial⟩
set_option maxRecDepth 20000 in
set_option maxHeartbeats 2000000 in
theorem b_X11_orders_22 {E : wEnv} {Y : YT} {dd dr : Nat} {rec : Int32 → Int32 → Int32 → Mem → Option (Int32 × Mem)} (C : Cx E Y cX11_orders 7 RX11 dd) (hrec : ∀ {x1 : Int32} {x2 : Int32} {x3 : Int32} {M : Mem} {q : (Int32 × Mem)}, rec x1 x2 x3 M = some q → Mt E yX11_orders cX11_orders 7 (some .boolean) dr [.ref (ad E 50 0), .int x1, .int x2, .int x3] M (some (.int q.1)) q.2) (hdr : dr + 1 ≤ dd) (hdD : 4 ≤ dr) {q : (Int32 × Mem)} (R : Rx E Y (some .boolean) (some (.int q.1)) q.2) {x1 : Int32} {x2 : Int32} {x3 : Int32} (n : Nat) : ∀ {x4 : Int32} {M : Mem} (_ : f_X11_orders_22 rec x1 x2 x3 n x4 M = some q), G E Y 7 M 22 [(0, .ref (ad E 50 0)), (1, .int x1), (2, .int x2), (3, .int x3), (4, .int x4)] [] := by
  induction n with
  | zero =>
    intro x4 M h
    cases (show none = some q from h)
  | succ n ih =>
    intro x4 M h
    rw [f_X11_orders_22] at h
    refine g_iload C dX11_orders_22 rfl ?_
    refine g_sipush (v := (198 : Int32)) C dX11_orders_24 (by decide) ?_
    refine g_icmp_ge (tgt := 56) C dX11_orders_27 (by decide) h (fun h => ?_) (fun h => ?_)
    · refine g_iconst (v := (0 : Int32)) C dX11_orders_56 (by decide) ?_
      refine g_istore C dX11_orders_57 rfl ?_
      exact g_sub (b_X11_orders_59 C hrec hdr hdD R _ h) ⟨rfl, rfl, rfl, rfl, rfl, trivial⟩
    · refine g_aload_n C dX11_orders_30 rfl rfl ?_
      refine get_X11_53 C dX11_orders_31 (by decide) ?_
      refine g_sipush (v := (198 : Int32)) C dX11_orders_34 (by decide) ?_
      refine g_iload_n C dX11_orders_37 rfl rfl ?_
      refine g_imul C dX11_orders_38 ?_
      refine g_iload C dX11_orders_39 rfl ?_
      refine g_iadd C dX11_orders_41 ?_
      refine g_aload_n C dX11_orders_42 rfl rfl ?_
      refine get_X11_35 C dX11_orders_43 (by decide) ?_
      refine g_iload C dX11_orders_46 rfl ?_
      obtain ⟨hb11, h⟩ := of_ite h
      refine ld_55 (j := _) C dX11_orders_48 (by decide) hb11 rfl ?_
      obtain ⟨hb12, h⟩ := of_ite h
      refine st_61 (j := _) C dX11_orders_49 (by decide) hb12 rfl ?_
      refine g_iinc (w := (1 : Int32)) C dX11_orders_50 rfl (by decide) rfl ?_
      refine g_goto (tgt := 22) C dX11_orders_53 (by decide) ?_
      exact g_sub (ih h) ⟨rfl, rfl, rfl, rfl, rfl, trivial⟩
set_option maxRecDepth 20000 in
set_option maxHeartbeats 2000000 in
theorem c_X11_orders (E : wEnv) (n : Nat) : ∀ {x1 : Int32} {x2 : Int32} {x3 : Int32} {M : Mem} {q : (Int32 × Mem)} (_ : f_X11_orders n x1 x2 x3 M = some q), Mt E yX11_orders cX11_orders 7 (some .boolean) (4 + 1 * n) [.ref (ad E 50 0), .int x1, .int x2, .int x3] M (some (.int q.1)) q.2 := by
  induction n with
  | zero =>
    intro x1 x2 x3 M q h
    cases (show none = some q from h)
  | succ n ih =>
    intro x1 x2 x3 M q h
    rw [f_X11_orders] at h
    refine mt_intro (own := RX11) (lv0 := [(0, .ref (ad E 50 0)), (1, .int x1), (2, .int x2), (3, .int x3)]) (by decide) rfl rfl rfl (fun Y C R => ?_)
    refine g_iload_n C dX11_orders_0 rfl rfl ?_
    refine g_iload_n C dX11_orders_1 rfl rfl ?_
    refine g_icmp_ne (tgt := 19) C dX11_orders_2 (by decide) h (fun h => ?_) (fun h => ?_)
    · refine g_iconst (v := (0 : Int32)) C dX11_orders_19 (by decide) ?_
      refine g_istore C dX11_orders_20 rfl ?_
      exact g_sub (b_X11_orders_22 (dr := 4 + 1 * n) C ih (by omega) (by omega) R _ h) ⟨rfl, rfl, rfl, rfl, rfl, trivial⟩
    · refine g_aload_n C dX11_orders_5 rfl rfl ?_
      obtain ⟨r14, hr14, h⟩ := Option.bind_eq_some_iff.mp h
      refine call_X11_389 C dX11_orders_6 (by decide) (c_X11_judged E hr14) (by omega) rfl ?_
      refine g_iload_n C dX11_orders_9 rfl rfl ?_
      refine g_icmp_ne (tgt := 17) C dX11_orders_10 (by decide) h (fun h => ?_) (fun h => ?_)
      · refine g_iconst (v := (0 : Int32)) C dX11_orders_17 (by decide) ?_
        exact g_zret C R dX11_orders_18 (fst_of h) (Or.inl rfl) (snd_of h)
      · refine g_iconst (v := (1 : Int32)) C dX11_orders_13 (by decide) ?_
        refine g_goto (tgt := 18) C dX11_orders_14 (by decide) ?_
        exact g_zret C R dX11_orders_18 (fst_of h) (Or.inr rfl) (snd_of h)
noncomputable def f_X11_bestOrder_51 (x2 : Int32) : Nat → Int32 → Mem → Option (Int32 × Mem)
  | 0, _, _ => none
  | n + 1, x3, M =>
  if x3 < x2 then
    if inb x3 4 = true then
     if inb x3 4 = true then
      let M9 := sR M 60 0 (upd (M.1 60 0) x3.toNatClampNeg (M.1 59 0 x3.toNatClampNeg))
      f_X11_bestOrder_51 x2 n (x3 + (1 : Int32)) M9
     else none
    else none
  else
    some (x2, M)
noncomputable def f_X11_bestOrder_26 (x1 : Int32) : Nat → Int32 → Mem → Option (Int32 × Mem)
  | 0, _, _ => none
  | n + 1, x2, M =>
  if x2 < (5 : Int32) then
    (f_X11_orders 40 x1 (0 : Int32) x2 M).bind fun q5 =>
    if q5.1 = 0 then
      f_X11_bestOrder_26 x1 n (x2 + (1 : Int32)) q5.2
    else
      let M6 := sR q5.2 50 0 (upd (q5.2.1 50 0) 30 x2)
      f_X11_bestOrder_51 x2 FU (0 : Int32) M6
  else
    (f_X11_refuse (8 : Int32) M).bind fun q4 =>
    some (q4.1, q4.2)
noncomputable def f_X11_bestOrder (x1 : Int32) (M : Mem) : Option (Int32 × Mem) :=
  let M1 := sR M 50 0 (upd (M.1 50 0) 1 (0 : Int32))
  let M2 := sR M1 50 0 (upd (M1.1 50 0) 0 (0 : Int32))
  (f_X11_isVerdict x1.toInt64).bind fun r3 =>
  if r3 = 0 then
    (f_X11_refuse (5 : Int32) M2).bind fun q10 =>
    some (q10.1, q10.2)
  else
    f_X11_bestOrder_26 x1 FU (0 : Int32) M2
set_option maxRecDepth 20000 in
set_option maxHeartbeats 2000000 in
theorem b_X11_bestOrder_51 {E : wEnv} {Y : YT} (C : Cx E Y cX11_bestOrder 4 RX11 45) {q : (Int32 × Mem)} (R : Rx E Y (some .int) (some (.int q.1)) q.2) {x2 : Int32} (n : Nat) : ∀ {x3 : Int32} {M : Mem} (_ : f_X11_bestOrder_51 x2 n x3 M = some q), G E Y 4 M 51 [(0, .ref (ad E 50 0)), (2, .int x2), (3, .int x3)] [] := by
  induction n with
  | zero =>
    intro x3 M h
    cases (show none = some q from h)
  | succ n ih =>
    intro x3 M h
    rw [f_X11_bestOrder_51] at h
    refine g_iload_n C dX11_bestOrder_51 rfl rfl ?_
    refine g_iload_n C dX11_bestOrder_52 rfl rfl ?_
    refine g_icmp_ge (tgt := 74) C dX11_bestOrder_53 (by decide) h (fun h => ?_) (fun h => ?_)
    · refine g_iload_n C dX11_bestOrder_74 rfl rfl ?_
      exact g_iret C R dX11_bestOrder_75 (fst_of h) (snd_of h)
    · refine g_aload_n C dX11_bestOrder_56 rfl rfl ?_
      refine get_X11_50 C dX11_bestOrder_57 (by decide) ?_
      refine g_iload_n C dX11_bestOrder_60 rfl rfl ?_
      refine g_aload_n C dX11_bestOrder_61 rfl rfl ?_
      refine get_X11_47 C dX11_bestOrder_62 (by decide) ?_
      refine g_iload_n C dX11_bestOrder_65 rfl rfl ?_
      obtain ⟨hb7, h⟩ := of_ite h
      refine ld_59 (j := _) C dX11_bestOrder_66 (by decide) hb7 rfl ?_
      obtain ⟨hb8, h⟩ := of_ite h
      refine st_60 (j := _) C dX11_bestOrder_67 (by decide) hb8 rfl ?_
      refine g_iinc (w := (1 : Int32)) C dX11_bestOrder_68 rfl (by decide) rfl ?_
      refine g_goto (tgt := 51) C dX11_bestOrder_71 (by decide) ?_
      exact g_sub (ih h) ⟨rfl, rfl, rfl, trivial⟩
set_option maxRecDepth 20000 in
set_option maxHeartbeats 2000000 in
theorem b_X11_bestOrder_26 {E : wEnv} {Y : YT} (C : Cx E Y cX11_bestOrder 4 RX11 45) {q : (Int32 × Mem)} (R : Rx E Y (some .int) (some (.int q.1)) q.2) {x1 : Int32} (n : Nat) : ∀ {x2 : Int32} {M : Mem} (_ : f_X11_bestOrder_26 x1 n x2 M = some q), G E Y 4 M 26 [(0, .ref (ad E 50 0)), (1, .int x1), (2, .int x2)] [] := by
  induction n with
  | zero =>
    intro x2 M h
    cases (show none = some q from h)
  | succ n ih =>
    intro x2 M h
    rw [f_X11_bestOrder_26] at h
    refine g_iload_n C dX11_bestOrder_26 rfl rfl ?_
    refine g_iconst (v := (5 : Int32)) C dX11_bestOrder_27 (by decide) ?_
    refine g_icmp_ge (tgt := 82) C dX11_bestOrder_28 (by decide) h (fun h => ?_) (fun h => ?_)
    · refine g_aload_n C dX11_bestOrder_82 rfl rfl ?_
      refine g_bipush (v := (8 : Int32)) C dX11_bestOrder_83 (by decide) ?_
      obtain ⟨q4, hr4, h⟩ := Option.bind_eq_some_iff.mp h
      refine call_X11_340 C dX11_bestOrder_85 (by decide) (c_X11_refuse E hr4) (by decide) rfl ?_
      exact g_iret C R dX11_bestOrder_88 (fst_of h) (snd_of h)
    · refine g_aload_n C dX11_bestOrder_31 rfl rfl ?_
      refine g_iload_n C dX11_bestOrder_32 rfl rfl ?_
      refine g_iconst (v := (0 : Int32)) C dX11_bestOrder_33 (by decide) ?_
      refine g_iload_n C dX11_bestOrder_34 rfl rfl ?_
      obtain ⟨q5, hr5, h⟩ := Option.bind_eq_some_iff.mp h
      refine call_X11_425 C dX11_bestOrder_35 (by decide) (c_X11_orders E 40 hr5) (by decide) rfl ?_
      refine g_if_ne (tgt := 44) C dX11_bestOrder_38 (by decide) h (fun h => ?_) (fun h => ?_)
      · refine g_aload_n C dX11_bestOrder_44 rfl rfl ?_
        refine g_iload_n C dX11_bestOrder_45 rfl rfl ?_
        refine put_X11_56 C dX11_bestOrder_46 (by decide) ?_
        refine g_iconst (v := (0 : Int32)) C dX11_bestOrder_49 (by decide) ?_
        refine g_istore_n C dX11_bestOrder_50 rfl rfl ?_
        exact g_sub (b_X11_bestOrder_51 C R _ h) ⟨rfl, rfl, rfl, trivial⟩
      · refine g_goto (tgt := 76) C dX11_bestOrder_41 (by decide) ?_
        refine g_iinc (w := (1 : Int32)) C dX11_bestOrder_76 rfl (by decide) rfl ?_
        refine g_goto (tgt := 26) C dX11_bestOrder_79 (by decide) ?_
        exact g_sub (ih h) ⟨rfl, rfl, rfl, trivial⟩
set_option maxRecDepth 20000 in
set_option maxHeartbeats 2000000 in
theorem c_X11_bestOrder (E : wEnv) {x1 : Int32} {M : Mem} {q : (Int32 × Mem)} (h : f_X11_bestOrder x1 M = some q) : Mt E yX11_bestOrder cX11_bestOrder 4 (some .int) 45 [.ref (ad E 50 0), .int x1] M (some (.int q.1)) q.2 := by
  unfold f_X11_bestOrder at h
  refine mt_intro (own := RX11) (lv0 := [(0, .ref (ad E 50 0)), (1, .int x1)]) (by decide) rfl rfl rfl (fun Y C R => ?_)
  refine g_aload_n C dX11_bestOrder_0 rfl rfl ?_
  refine g_iconst (v := (0 : Int32)) C dX11_bestOrder_1 (by decide) ?_
  refine put_X11_71 C dX11_bestOrder_2 (by decide) ?_
  refine g_aload_n C dX11_bestOrder_5 rfl rfl ?_
  refine g_iconst (v := (0 : Int32)) C dX11_bestOrder_6 (by decide) ?_
  refine put_X11_74 C dX11_bestOrder_7 (by decide) ?_
  refine g_iload_n C dX11_bestOrder_10 rfl rfl ?_
  refine g_i2l C dX11_bestOrder_11 ?_
  obtain ⟨r3, hr3, h⟩ := Option.bind_eq_some_iff.mp h
  refine call_X11_422 C dX11_bestOrder_12 (c_X11_isVerdict E hr3) (by decide) rfl ?_
  refine g_if_ne (tgt := 24) C dX11_bestOrder_15 (by decide) h (fun h => ?_) (fun h => ?_)
  · refine g_iconst (v := (0 : Int32)) C dX11_bestOrder_24 (by decide) ?_
    refine g_istore_n C dX11_bestOrder_25 rfl rfl ?_
    exact g_sub (b_X11_bestOrder_26 C R _ h) ⟨rfl, rfl, rfl, trivial⟩
  · refine g_aload_n C dX11_bestOrder_18 rfl rfl ?_
    refine g_iconst (v := (5 : Int32)) C dX11_bestOrder_19 (by decide) ?_
    obtain ⟨q10, hr10, h⟩ := Option.bind_eq_some_iff.mp h
    refine call_X11_340 C dX11_bestOrder_20 (by decide) (c_X11_refuse E hr10) (by decide) rfl ?_
    exact g_iret C R dX11_bestOrder_23 (fst_of h) (snd_of h)
noncomputable def f_X11_orderAt (x1 : Int32) (M : Mem) : Option (Int32 × Mem) :=
  let M1 := sR M 50 0 (upd (M.1 50 0) 1 (0 : Int32))
  let M2 := sR M1 50 0 (upd (M1.1 50 0) 0 (0 : Int32))
  (f_X11_isIn x1.toInt64 (0 : Int64) (((M2.1 50 0 30) - (1 : Int32)).toInt64)).bind fun r3 =>
  if r3 = 0 then
    (f_X11_refuse (8 : Int32) M2).bind fun q4 =>
    some (q4.1, q4.2)
  else
    if inb x1 4 = true then
     some ((M2.1 60 0 x1.toNatClampNeg), M2)
    else none
set_option maxRecDepth 20000 in
set_option maxHeartbeats 2000000 in
theorem c_X11_orderAt (E : wEnv) {x1 : Int32} {M : Mem} {q : (Int32 × Mem)} (h : f_X11_orderAt x1 M = some q) : Mt E yX11_orderAt cX11_orderAt 2 (some .int) 1 [.ref (ad E 50 0), .int x1] M (some (.int q.1)) q.2 := by
  unfold f_X11_orderAt at h
  refine mt_intro (own := RX11) (lv0 := [(0, .ref (ad E 50 0)), (1, .int x1)]) (by decide) rfl rfl rfl (fun Y C R => ?_)
  refine g_aload_n C dX11_orderAt_0 rfl rfl ?_
  refine g_iconst (v := (0 : Int32)) C dX11_orderAt_1 (by decide) ?_
  refine put_X11_71 C dX11_orderAt_2 (by decide) ?_
  refine g_aload_n C dX11_orderAt_5 rfl rfl ?_
  refine g_iconst (v := (0 : Int32)) C dX11_orderAt_6 (by decide) ?_
  refine put_X11_74 C dX11_orderAt_7 (by decide) ?_
  refine g_iload_n C dX11_orderAt_10 rfl rfl ?_
  refine g_i2l C dX11_orderAt_11 ?_
  refine g_lconst (v := (0 : Int64)) C dX11_orderAt_12 (by decide) ?_
  refine g_aload_n C dX11_orderAt_13 rfl rfl ?_
  refine get_X11_56 C dX11_orderAt_14 (by decide) ?_
  refine g_iconst (v := (1 : Int32)) C dX11_orderAt_17 (by decide) ?_
  refine g_isub C dX11_orderAt_18 ?_
  refine g_i2l C dX11_orderAt_19 ?_
  obtain ⟨r3, hr3, h⟩ := Option.bind_eq_some_iff.mp h
  refine call_X11_106 C dX11_orderAt_20 (c_X11_isIn E hr3) (by decide) rfl ?_
  refine g_if_eq (tgt := 35) C dX11_orderAt_23 (by decide) h (fun h => ?_) (fun h => ?_)
  · refine g_aload_n C dX11_orderAt_35 rfl rfl ?_
    refine g_bipush (v := (8 : Int32)) C dX11_orderAt_36 (by decide) ?_
    obtain ⟨q4, hr4, h⟩ := Option.bind_eq_some_iff.mp h
    refine call_X11_340 C dX11_orderAt_38 (by decide) (c_X11_refuse E hr4) (by decide) rfl ?_
    exact g_iret C R dX11_orderAt_41 (fst_of h) (snd_of h)
  · refine g_aload_n C dX11_orderAt_26 rfl rfl ?_
    refine get_X11_50 C dX11_orderAt_27 (by decide) ?_
    refine g_iload_n C dX11_orderAt_30 rfl rfl ?_
    obtain ⟨hb5, h⟩ := of_ite h
    refine ld_60 (j := _) C dX11_orderAt_31 (by decide) hb5 rfl ?_
    refine g_goto (tgt := 41) C dX11_orderAt_32 (by decide) ?_
    exact g_iret C R dX11_orderAt_41 (fst_of h) (snd_of h)
noncomputable def f_X11_bribes_92 (k138 : Int32 → Option (Int32 × Mem)) (x1 : Int32) (x2 : Int32) (x3 : Int32) (x4 : Int32) (x5 : Int32) (x6 : Int32) (M : Mem) : Nat → Int32 → Int32 → Option (Int32 × Mem)
  | 0, _, _ => none
  | n + 1, x7, x8 =>
  if x8 < (M.1 55 0 0) then
    (f_X11_has x6 x8).bind fun r8 =>
    if r8 = 0 then
      f_X11_bribes_92 k138 x1 x2 x3 x4 x5 x6 M n (x7 + (0 : Int32)) (x8 + (1 : Int32))
    else
      if inb ((32 : Int32) + x8) 2375 = true then
       let x7_10 := (x7 + (M.1 55 0 (((32 : Int32) + x8).toNatClampNeg)))
       f_X11_bribes_92 k138 x1 x2 x3 x4 x5 x6 M n x7_10 (x8 + (1 : Int32))
      else none
  else
    k138 x7
noncomputable def f_X11_bribes_160 (k201 : Mem → Option (Int32 × Mem)) (x1 : Int32) (x2 : Int32) (x3 : Int32) (x4 : Int32) (x5 : Int32) (x6 : Int32) (x7 : Int32) : Nat → Int32 → Mem → Option (Int32 × Mem)
  | 0, _, _ => none
  | n + 1, x8, M =>
  if x8 < (M.1 55 0 0) then
    (f_X11_has x6 x8).bind fun r13 =>
    if r13 = 0 then
      f_X11_bribes_160 k201 x1 x2 x3 x4 x5 x6 x7 n (x8 + (1 : Int32)) M
    else
      if inb ((42 : Int32) + x8) 2375 = true then
       let M15 := sR M 55 0 (upd (M.1 55 0) (((42 : Int32) + x8).toNatClampNeg) ((99 : Int32) * x2))
       f_X11_bribes_160 k201 x1 x2 x3 x4 x5 x6 x7 n (x8 + (1 : Int32)) M15
      else none
  else
    k201 M
noncomputable def f_X11_bribes_219 (k55 : Int32 → Int32 → Int32 → Mem → Option (Int32 × Mem)) (x1 : Int32) (x2 : Int32) (x3 : Int32) (x4 : Int32) (x5 : Int32) (x6 : Int32) (x7 : Int32) (ps0 : Int32) (M : Mem) : Option (Int32 × Mem) :=
  (f_X11_gives M).bind fun M19 =>
  if ps0 = 0 then
    k55 x4 x5 (x6 + (1 : Int32)) M19
  else
    k55 x6 x7 (x6 + (1 : Int32)) M19
noncomputable def f_X11_bribes_55 (x1 : Int32) (x2 : Int32) (x3 : Int32) : Nat → Int32 → Int32 → Int32 → Mem → Option (Int32 × Mem)
  | 0, _, _, _, _ => none
  | n + 1, x4, x5, x6, M =>
  if x6 < ((1 : Int32) <<< ((M.1 55 0 0) &&& 31)) then
    if (x6 &&& ((M.1 55 0 10) ^^^ (-1 : Int32))) = 0 then
      f_X11_bribes_92 (fun x7_11 =>
          if x4 < 0 then
            (f_X11_keeps M).bind fun M12 =>
            f_X11_bribes_160 (fun M_16 =>
                (f_X11_talksFor x3 M_16).bind fun M17 =>
                (f_X11_judged M17).bind fun r18 =>
                if r18 = x1 then
                  f_X11_bribes_219 (fun x4_21 x5_21 x6_21 M_21 =>
                      f_X11_bribes_55 x1 x2 x3 n x4_21 x5_21 x6_21 M_21) x1 x2 x3 x4 x5 x6 x7_11 (1 : Int32) M17
                else
                  f_X11_bribes_219 (fun x4_20 x5_20 x6_20 M_20 =>
                      f_X11_bribes_55 x1 x2 x3 n x4_20 x5_20 x6_20 M_20) x1 x2 x3 x4 x5 x6 x7_11 (0 : Int32) M17) x1 x2 x3 x4 x5 x6 x7_11 FU (0 : Int32) M12
          else
            if x7_11 < x5 then
              (f_X11_keeps M).bind fun M22 =>
              f_X11_bribes_160 (fun M_23 =>
                  (f_X11_talksFor x3 M_23).bind fun M24 =>
                  (f_X11_judged M24).bind fun r25 =>
                  if r25 = x1 then
                    f_X11_bribes_219 (fun x4_27 x5_27 x6_27 M_27 =>
                        f_X11_bribes_55 x1 x2 x3 n x4_27 x5_27 x6_27 M_27) x1 x2 x3 x4 x5 x6 x7_11 (1 : Int32) M24
                  else
                    f_X11_bribes_219 (fun x4_26 x5_26 x6_26 M_26 =>
                        f_X11_bribes_55 x1 x2 x3 n x4_26 x5_26 x6_26 M_26) x1 x2 x3 x4 x5 x6 x7_11 (0 : Int32) M24) x1 x2 x3 x4 x5 x6 x7_11 FU (0 : Int32) M22
            else
              f_X11_bribes_55 x1 x2 x3 n x4 x5 (x6 + (1 : Int32)) M) x1 x2 x3 x4 x5 x6 M FU (0 : Int32) (0 : Int32)
    else
      f_X11_bribes_55 x1 x2 x3 n x4 x5 (x6 + (1 : Int32)) M
  else
    if x4 < 0 then
      (f_X11_refuse (8 : Int32) M).bind fun q7 =>
      some (q7.1, q7.2)
    else
      let M6 := sR M 50 0 (upd (M.1 50 0) 31 x4)
      some (x5, M6)
noncomputable def f_X11_bribes_28 (x1 : Int32) (x2 : Int32) (x3 : Int32) (M : Mem) : Option (Int32 × Mem) :=
  (f_X11_isIn x3.toInt64 (0 : Int64) (9 : Int64)).bind fun r5 =>
  if r5 = 0 then
    (f_X11_refuse (5 : Int32) M).bind fun q28 =>
    some (q28.1, q28.2)
  else
    f_X11_bribes_55 x1 x2 x3 FU (-1 : Int32) (0 : Int32) (0 : Int32) M
noncomputable def f_X11_bribes (x1 : Int32) (x2 : Int32) (x3 : Int32) (M : Mem) : Option (Int32 × Mem) :=
  let M1 := sR M 50 0 (upd (M.1 50 0) 1 (0 : Int32))
  let M2 := sR M1 50 0 (upd (M1.1 50 0) 0 (0 : Int32))
  (f_X11_isVerdict x1.toInt64).bind fun r3 =>
  if r3 = 0 then
    (f_X11_refuse (5 : Int32) M2).bind fun q4 =>
    some (q4.1, q4.2)
  else
    if x2 = (1 : Int32) then
      f_X11_bribes_28 x1 x2 x3 M2
    else
      if x2 = (-1 : Int32) then
        f_X11_bribes_28 x1 x2 x3 M2
      else
        (f_X11_refuse (5 : Int32) M2).bind fun q29 =>
        some (q29.1, q29.2)
set_option maxRecDepth 20000 in
set_option maxHeartbeats 2000000 in
theorem b_X11_bribes_92 {E : wEnv} {Y : YT} (C : Cx E Y cX11_bribes 9 RX11 5) {q : (Int32 × Mem)} {M : Mem} (R : Rx E Y (some .int) (some (.int q.1)) q.2) {x1 : Int32} {x2 : Int32} {x3 : Int32} {x4 : Int32} {x5 : Int32} {x6 : Int32} {k138 : Int32 → Option (Int32 × Mem)} (hk138 : ∀ {x7 : Int32} , k138 x7 = some q → G E Y 9 M 138 [(0, .ref (ad E 50 0)), (1, .int x1), (2, .int x2), (3, .int x3), (4, .int x4), (5, .int x5), (6, .int x6), (7, .int x7)] []) (n : Nat) : ∀ {x7 : Int32} {x8 : Int32} (_ : f_X11_bribes_92 k138 x1 x2 x3 x4 x5 x6 M n x7 x8 = some q), G E Y 9 M 92 [(0, .ref (ad E 50 0)), (1, .int x1), (2, .int x2), (3, .int x3), (4, .int x4), (5, .int x5), (6, .int x6), (7, .int x7), (8, .int x8)] [] := by
  induction n with
  | zero =>
    intro x7 x8 h
    cases (show none = some q from h)
  | succ n ih =>
    intro x7 x8 h
    rw [f_X11_bribes_92] at h
    refine g_iload C dX11_bribes_92 rfl ?_
    refine g_aload_n C dX11_bribes_94 rfl rfl ?_
    refine get_X11_35 C dX11_bribes_95 (by decide) ?_
    refine g_iconst (v := (0 : Int32)) C dX11_bribes_98 (by decide) ?_
    refine ld_55 (j := 0) C dX11_bribes_99 (by decide) (by decide) rfl ?_
    refine g_icmp_ge (tgt := 138) C dX11_bribes_100 (by decide) h (fun h => ?_) (fun h => ?_)
    · exact g_sub (hk138 h) ⟨rfl, rfl, rfl, rfl, rfl, rfl, rfl, rfl, trivial⟩
    · refine g_iload C dX11_bribes_103 rfl ?_
      refine g_iload C dX11_bribes_105 rfl ?_
      refine g_iload C dX11_bribes_107 rfl ?_
      obtain ⟨r8, hr8, h⟩ := Option.bind_eq_some_iff.mp h
      refine call_X11_110 C dX11_bribes_109 (c_X11_has E hr8) (by decide) rfl ?_
      refine g_if_eq (tgt := 128) C dX11_bribes_112 (by decide) h (fun h => ?_) (fun h => ?_)
      · refine g_iconst (v := (0 : Int32)) C dX11_bribes_128 (by decide) ?_
        refine g_iadd C dX11_bribes_129 ?_
        refine g_istore C dX11_bribes_130 rfl ?_
        refine g_iinc (w := (1 : Int32)) C dX11_bribes_132 rfl (by decide) rfl ?_
        refine g_goto (tgt := 92) C dX11_bribes_135 (by decide) ?_
        exact g_sub (ih h) ⟨rfl, rfl, rfl, rfl, rfl, rfl, rfl, rfl, rfl, trivial⟩
      · refine g_aload_n C dX11_bribes_115 rfl rfl ?_
        refine get_X11_35 C dX11_bribes_116 (by decide) ?_
        refine g_bipush (v := (32 : Int32)) C dX11_bribes_119 (by decide) ?_
        refine g_iload C dX11_bribes_121 rfl ?_
        refine g_iadd C dX11_bribes_123 ?_
        obtain ⟨hb9, h⟩ := of_ite h
        refine ld_55 (j := _) C dX11_bribes_124 (by decide) hb9 rfl ?_
        refine g_goto (tgt := 129) C dX11_bribes_125 (by decide) ?_
        refine g_iadd C dX11_bribes_129 ?_
        refine g_istore C dX11_bribes_130 rfl ?_
        refine g_iinc (w := (1 : Int32)) C dX11_bribes_132 rfl (by decide) rfl ?_
        refine g_goto (tgt := 92) C dX11_bribes_135 (by decide) ?_
        exact g_sub (ih h) ⟨rfl, rfl, rfl, rfl, rfl, rfl, rfl, rfl, rfl, trivial⟩
set_option maxRecDepth 20000 in
set_option maxHeartbeats 2000000 in
theorem b_X11_bribes_160 {E : wEnv} {Y : YT} (C : Cx E Y cX11_bribes 9 RX11 5) {q : (Int32 × Mem)} (R : Rx E Y (some .int) (some (.int q.1)) q.2) {x1 : Int32} {x2 : Int32} {x3 : Int32} {x4 : Int32} {x5 : Int32} {x6 : Int32} {x7 : Int32} {k201 : Mem → Option (Int32 × Mem)} (hk201 : ∀ {M : Mem} , k201 M = some q → G E Y 9 M 201 [(0, .ref (ad E 50 0)), (1, .int x1), (2, .int x2), (3, .int x3), (4, .int x4), (5, .int x5), (6, .int x6), (7, .int x7)] []) (n : Nat) : ∀ {x8 : Int32} {M : Mem} (_ : f_X11_bribes_160 k201 x1 x2 x3 x4 x5 x6 x7 n x8 M = some q), G E Y 9 M 160 [(0, .ref (ad E 50 0)), (1, .int x1), (2, .int x2), (3, .int x3), (4, .int x4), (5, .int x5), (6, .int x6), (7, .int x7), (8, .int x8)] [] := by
  induction n with
  | zero =>
    intro x8 M h
    cases (show none = some q from h)
  | succ n ih =>
    intro x8 M h
    rw [f_X11_bribes_160] at h
    refine g_iload C dX11_bribes_160 rfl ?_
    refine g_aload_n C dX11_bribes_162 rfl rfl ?_
    refine get_X11_35 C dX11_bribes_163 (by decide) ?_
    refine g_iconst (v := (0 : Int32)) C dX11_bribes_166 (by decide) ?_
    refine ld_55 (j := 0) C dX11_bribes_167 (by decide) (by decide) rfl ?_
    refine g_icmp_ge (tgt := 201) C dX11_bribes_168 (by decide) h (fun h => ?_) (fun h => ?_)
    · exact g_sub (hk201 h) ⟨rfl, rfl, rfl, rfl, rfl, rfl, rfl, rfl, trivial⟩
    · refine g_iload C dX11_bribes_171 rfl ?_
      refine g_iload C dX11_bribes_173 rfl ?_
      obtain ⟨r13, hr13, h⟩ := Option.bind_eq_some_iff.mp h
      refine call_X11_110 C dX11_bribes_175 (c_X11_has E hr13) (by decide) rfl ?_
      refine g_if_eq (tgt := 195) C dX11_bribes_178 (by decide) h (fun h => ?_) (fun h => ?_)
      · refine g_iinc (w := (1 : Int32)) C dX11_bribes_195 rfl (by decide) rfl ?_
        refine g_goto (tgt := 160) C dX11_bribes_198 (by decide) ?_
        exact g_sub (ih h) ⟨rfl, rfl, rfl, rfl, rfl, rfl, rfl, rfl, rfl, trivial⟩
      · refine g_aload_n C dX11_bribes_181 rfl rfl ?_
        refine get_X11_35 C dX11_bribes_182 (by decide) ?_
        refine g_bipush (v := (42 : Int32)) C dX11_bribes_185 (by decide) ?_
        refine g_iload C dX11_bribes_187 rfl ?_
        refine g_iadd C dX11_bribes_189 ?_
        refine g_bipush (v := (99 : Int32)) C dX11_bribes_190 (by decide) ?_
        refine g_iload_n C dX11_bribes_192 rfl rfl ?_
        refine g_imul C dX11_bribes_193 ?_
        obtain ⟨hb14, h⟩ := of_ite h
        refine st_55 (j := _) C dX11_bribes_194 (by decide) hb14 rfl ?_
        refine g_iinc (w := (1 : Int32)) C dX11_bribes_195 rfl (by decide) rfl ?_
        refine g_goto (tgt := 160) C dX11_bribes_198 (by decide) ?_
        exact g_sub (ih h) ⟨rfl, rfl, rfl, rfl, rfl, rfl, rfl, rfl, rfl, trivial⟩
set_option maxRecDepth 20000 in
set_option maxHeartbeats 2000000 in
theorem b_X11_bribes_219 {E : wEnv} {Y : YT} (C : Cx E Y cX11_bribes 9 RX11 5) {q : (Int32 × Mem)} (R : Rx E Y (some .int) (some (.int q.1)) q.2) {x1 : Int32} {x2 : Int32} {x3 : Int32} {x4 : Int32} {x5 : Int32} {x6 : Int32} {x7 : Int32} {ps0 : Int32} {k55 : Int32 → Int32 → Int32 → Mem → Option (Int32 × Mem)} (hk55 : ∀ {x4 : Int32} {x5 : Int32} {x6 : Int32} {M : Mem} , k55 x4 x5 x6 M = some q → G E Y 9 M 55 [(0, .ref (ad E 50 0)), (1, .int x1), (2, .int x2), (3, .int x3), (4, .int x4), (5, .int x5), (6, .int x6)] []) {M : Mem} (h : f_X11_bribes_219 k55 x1 x2 x3 x4 x5 x6 x7 ps0 M = some q) : G E Y 9 M 219 [(0, .ref (ad E 50 0)), (1, .int x1), (2, .int x2), (3, .int x3), (4, .int x4), (5, .int x5), (6, .int x6), (7, .int x7)] [.int ps0] := by
  unfold f_X11_bribes_219 at h
  refine g_istore C dX11_bribes_219 rfl ?_
  refine g_aload_n C dX11_bribes_221 rfl rfl ?_
  obtain ⟨M19, hr19, h⟩ := Option.bind_eq_some_iff.mp h
  refine call_X11_417 C dX11_bribes_222 (by decide) (c_X11_gives E hr19) (by decide) rfl ?_
  refine g_iload C dX11_bribes_225 rfl ?_
  refine g_if_ne (tgt := 233) C dX11_bribes_227 (by decide) h (fun h => ?_) (fun h => ?_)
  · refine g_iload C dX11_bribes_233 rfl ?_
    refine g_istore C dX11_bribes_235 rfl ?_
    refine g_iload C dX11_bribes_237 rfl ?_
    refine g_istore C dX11_bribes_239 rfl ?_
    refine g_iinc (w := (1 : Int32)) C dX11_bribes_241 rfl (by decide) rfl ?_
    refine g_goto (tgt := 55) C dX11_bribes_244 (by decide) ?_
    exact g_sub (hk55 h) ⟨rfl, rfl, rfl, rfl, rfl, rfl, rfl, trivial⟩
  · refine g_goto (tgt := 241) C dX11_bribes_230 (by decide) ?_
    refine g_iinc (w := (1 : Int32)) C dX11_bribes_241 rfl (by decide) rfl ?_
    refine g_goto (tgt := 55) C dX11_bribes_244 (by decide) ?_
    exact g_sub (hk55 h) ⟨rfl, rfl, rfl, rfl, rfl, rfl, rfl, trivial⟩
set_option maxRecDepth 20000 in
set_option maxHeartbeats 2000000 in
theorem b_X11_bribes_55 {E : wEnv} {Y : YT} (C : Cx E Y cX11_bribes 9 RX11 5) {q : (Int32 × Mem)} (R : Rx E Y (some .int) (some (.int q.1)) q.2) {x1 : Int32} {x2 : Int32} {x3 : Int32} (n : Nat) : ∀ {x4 : Int32} {x5 : Int32} {x6 : Int32} {M : Mem} (_ : f_X11_bribes_55 x1 x2 x3 n x4 x5 x6 M = some q), G E Y 9 M 55 [(0, .ref (ad E 50 0)), (1, .int x1), (2, .int x2), (3, .int x3), (4, .int x4), (5, .int x5), (6, .int x6)] [] := by
  induction n with
  | zero =>
    intro x4 x5 x6 M h
    cases (show none = some q from h)
  | succ n ih =>
    intro x4 x5 x6 M h
    rw [f_X11_bribes_55] at h
    refine g_iload C dX11_bribes_55 rfl ?_
    refine g_iconst (v := (1 : Int32)) C dX11_bribes_57 (by decide) ?_
    refine g_aload_n C dX11_bribes_58 rfl rfl ?_
    refine get_X11_35 C dX11_bribes_59 (by decide) ?_
    refine g_iconst (v := (0 : Int32)) C dX11_bribes_62 (by decide) ?_
    refine ld_55 (j := 0) C dX11_bribes_63 (by decide) (by decide) rfl ?_
    refine g_ishl C dX11_bribes_64 ?_
    refine g_icmp_ge (tgt := 247) C dX11_bribes_65 (by decide) h (fun h => ?_) (fun h => ?_)
    · refine g_iload C dX11_bribes_247 rfl ?_
      refine g_if_ge (tgt := 259) C dX11_bribes_249 (by decide) h (fun h => ?_) (fun h => ?_)
      · refine g_aload_n C dX11_bribes_259 rfl rfl ?_
        refine g_iload C dX11_bribes_260 rfl ?_
        refine put_X11_59 C dX11_bribes_262 (by decide) ?_
        refine g_iload C dX11_bribes_265 rfl ?_
        exact g_iret C R dX11_bribes_267 (fst_of h) (snd_of h)
      · refine g_aload_n C dX11_bribes_252 rfl rfl ?_
        refine g_bipush (v := (8 : Int32)) C dX11_bribes_253 (by decide) ?_
        obtain ⟨q7, hr7, h⟩ := Option.bind_eq_some_iff.mp h
        refine call_X11_340 C dX11_bribes_255 (by decide) (c_X11_refuse E hr7) (by decide) rfl ?_
        exact g_iret C R dX11_bribes_258 (fst_of h) (snd_of h)
    · refine g_iload C dX11_bribes_68 rfl ?_
      refine g_aload_n C dX11_bribes_70 rfl rfl ?_
      refine get_X11_35 C dX11_bribes_71 (by decide) ?_
      refine g_bipush (v := (10 : Int32)) C dX11_bribes_74 (by decide) ?_
      refine ld_55 (j := 10) C dX11_bribes_76 (by decide) (by decide) rfl ?_
      refine g_iconst (v := (-1 : Int32)) C dX11_bribes_77 (by decide) ?_
      refine g_ixor C dX11_bribes_78 ?_
      refine g_iand C dX11_bribes_79 ?_
      refine g_if_eq (tgt := 86) C dX11_bribes_80 (by decide) h (fun h => ?_) (fun h => ?_)
      · refine g_iconst (v := (0 : Int32)) C dX11_bribes_86 (by decide) ?_
        refine g_istore C dX11_bribes_87 rfl ?_
        refine g_iconst (v := (0 : Int32)) C dX11_bribes_89 (by decide) ?_
        refine g_istore C dX11_bribes_90 rfl ?_
        refine g_sub (b_X11_bribes_92 C R ?_ _ h) ⟨rfl, rfl, rfl, rfl, rfl, rfl, rfl, rfl, rfl, trivial⟩
        · clear h
          intro x7_11 h
          refine g_iload C dX11_bribes_138 rfl ?_
          refine g_if_lt (tgt := 153) C dX11_bribes_140 (by decide) h (fun h => ?_) (fun h => ?_)
          · refine g_aload_n C dX11_bribes_153 rfl rfl ?_
            obtain ⟨M12, hr12, h⟩ := Option.bind_eq_some_iff.mp h
            refine call_X11_411 C dX11_bribes_154 (by decide) (c_X11_keeps E hr12) (by decide) rfl ?_
            refine g_iconst (v := (0 : Int32)) C dX11_bribes_157 (by decide) ?_
            refine g_istore C dX11_bribes_158 rfl ?_
            refine g_sub (b_X11_bribes_160 C R ?_ _ h) ⟨rfl, rfl, rfl, rfl, rfl, rfl, rfl, rfl, rfl, trivial⟩
            · clear h
              intro M_16 h
              refine g_aload_n C dX11_bribes_201 rfl rfl ?_
              refine g_iload_n C dX11_bribes_202 rfl rfl ?_
              obtain ⟨M17, hr17, h⟩ := Option.bind_eq_some_iff.mp h
              refine call_X11_386 C dX11_bribes_203 (by decide) (c_X11_talksFor E hr17) (by decide) rfl ?_
              refine g_aload_n C dX11_bribes_206 rfl rfl ?_
              obtain ⟨r18, hr18, h⟩ := Option.bind_eq_some_iff.mp h
              refine call_X11_389 C dX11_bribes_207 (by decide) (c_X11_judged E hr18) (by decide) rfl ?_
              refine g_iload_n C dX11_bribes_210 rfl rfl ?_
              refine g_icmp_ne (tgt := 218) C dX11_bribes_211 (by decide) h (fun h => ?_) (fun h => ?_)
              · refine g_iconst (v := (0 : Int32)) C dX11_bribes_218 (by decide) ?_
                refine g_sub (b_X11_bribes_219 C R ?_  h) ⟨rfl, rfl, rfl, rfl, rfl, rfl, rfl, rfl, trivial⟩
                · clear h
                  intro x4_20 x5_20 x6_20 M_20 h
                  exact g_sub (ih h) ⟨rfl, rfl, rfl, rfl, rfl, rfl, rfl, trivial⟩
              · refine g_iconst (v := (1 : Int32)) C dX11_bribes_214 (by decide) ?_
                refine g_goto (tgt := 219) C dX11_bribes_215 (by decide) ?_
                refine g_sub (b_X11_bribes_219 C R ?_  h) ⟨rfl, rfl, rfl, rfl, rfl, rfl, rfl, rfl, trivial⟩
                · clear h
                  intro x4_21 x5_21 x6_21 M_21 h
                  exact g_sub (ih h) ⟨rfl, rfl, rfl, rfl, rfl, rfl, rfl, trivial⟩
          · refine g_iload C dX11_bribes_143 rfl ?_
            refine g_iload C dX11_bribes_145 rfl ?_
            refine g_icmp_lt (tgt := 153) C dX11_bribes_147 (by decide) h (fun h => ?_) (fun h => ?_)
            · refine g_aload_n C dX11_bribes_153 rfl rfl ?_
              obtain ⟨M22, hr22, h⟩ := Option.bind_eq_some_iff.mp h
              refine call_X11_411 C dX11_bribes_154 (by decide) (c_X11_keeps E hr22) (by decide) rfl ?_
              refine g_iconst (v := (0 : Int32)) C dX11_bribes_157 (by decide) ?_
              refine g_istore C dX11_bribes_158 rfl ?_
              refine g_sub (b_X11_bribes_160 C R ?_ _ h) ⟨rfl, rfl, rfl, rfl, rfl, rfl, rfl, rfl, rfl, trivial⟩
              · clear h
                intro M_23 h
                refine g_aload_n C dX11_bribes_201 rfl rfl ?_
                refine g_iload_n C dX11_bribes_202 rfl rfl ?_
                obtain ⟨M24, hr24, h⟩ := Option.bind_eq_some_iff.mp h
                refine call_X11_386 C dX11_bribes_203 (by decide) (c_X11_talksFor E hr24) (by decide) rfl ?_
                refine g_aload_n C dX11_bribes_206 rfl rfl ?_
                obtain ⟨r25, hr25, h⟩ := Option.bind_eq_some_iff.mp h
                refine call_X11_389 C dX11_bribes_207 (by decide) (c_X11_judged E hr25) (by decide) rfl ?_
                refine g_iload_n C dX11_bribes_210 rfl rfl ?_
                refine g_icmp_ne (tgt := 218) C dX11_bribes_211 (by decide) h (fun h => ?_) (fun h => ?_)
                · refine g_iconst (v := (0 : Int32)) C dX11_bribes_218 (by decide) ?_
                  refine g_sub (b_X11_bribes_219 C R ?_  h) ⟨rfl, rfl, rfl, rfl, rfl, rfl, rfl, rfl, trivial⟩
                  · clear h
                    intro x4_26 x5_26 x6_26 M_26 h
                    exact g_sub (ih h) ⟨rfl, rfl, rfl, rfl, rfl, rfl, rfl, trivial⟩
                · refine g_iconst (v := (1 : Int32)) C dX11_bribes_214 (by decide) ?_
                  refine g_goto (tgt := 219) C dX11_bribes_215 (by decide) ?_
                  refine g_sub (b_X11_bribes_219 C R ?_  h) ⟨rfl, rfl, rfl, rfl, rfl, rfl, rfl, rfl, trivial⟩
                  · clear h
                    intro x4_27 x5_27 x6_27 M_27 h
                    exact g_sub (ih h) ⟨rfl, rfl, rfl, rfl, rfl, rfl, rfl, trivial⟩
            · refine g_goto (tgt := 241) C dX11_bribes_150 (by decide) ?_
              refine g_iinc (w := (1 : Int32)) C dX11_bribes_241 rfl (by decide) rfl ?_
              refine g_goto (tgt := 55) C dX11_bribes_244 (by decide) ?_
              exact g_sub (ih h) ⟨rfl, rfl, rfl, rfl, rfl, rfl, rfl, trivial⟩
      · refine g_goto (tgt := 241) C dX11_bribes_83 (by decide) ?_
        refine g_iinc (w := (1 : Int32)) C dX11_bribes_241 rfl (by decide) rfl ?_
        refine g_goto (tgt := 55) C dX11_bribes_244 (by decide) ?_
        exact g_sub (ih h) ⟨rfl, rfl, rfl, rfl, rfl, rfl, rfl, trivial⟩
set_option maxRecDepth 20000 in
set_option maxHeartbeats 2000000 in
theorem b_X11_bribes_28 {E : wEnv} {Y : YT} (C : Cx E Y cX11_bribes 9 RX11 5) {q : (Int32 × Mem)} (R : Rx E Y (some .int) (some (.int q.1)) q.2) {x1 : Int32} {x2 : Int32} {x3 : Int32} {M : Mem} (h : f_X11_bribes_28 x1 x2 x3 M = some q) : G E Y 9 M 28 [(0, .ref (ad E 50 0)), (1, .int x1), (2, .int x2), (3, .int x3)] [] := by
  unfold f_X11_bribes_28 at h
  refine g_iload_n C dX11_bribes_28 rfl rfl ?_
  refine g_i2l C dX11_bribes_29 ?_
  refine g_lconst (v := (0 : Int64)) C dX11_bribes_30 (by decide) ?_
  refine g_ldc2 C dX11_bribes_31 qc_X11_429 ?_
  obtain ⟨r5, hr5, h⟩ := Option.bind_eq_some_iff.mp h
  refine call_X11_106 C dX11_bribes_34 (c_X11_isIn E hr5) (by decide) rfl ?_
  refine g_if_ne (tgt := 46) C dX11_bribes_37 (by decide) h (fun h => ?_) (fun h => ?_)
  · refine g_iconst (v := (-1 : Int32)) C dX11_bribes_46 (by decide) ?_
    refine g_istore C dX11_bribes_47 rfl ?_
    refine g_iconst (v := (0 : Int32)) C dX11_bribes_49 (by decide) ?_
    refine g_istore C dX11_bribes_50 rfl ?_
    refine g_iconst (v := (0 : Int32)) C dX11_bribes_52 (by decide) ?_
    refine g_istore C dX11_bribes_53 rfl ?_
    exact g_sub (b_X11_bribes_55 C R _ h) ⟨rfl, rfl, rfl, rfl, rfl, rfl, rfl, trivial⟩
  · refine g_aload_n C dX11_bribes_40 rfl rfl ?_
    refine g_iconst (v := (5 : Int32)) C dX11_bribes_41 (by decide) ?_
    obtain ⟨q28, hr28, h⟩ := Option.bind_eq_some_iff.mp h
    refine call_X11_340 C dX11_bribes_42 (by decide) (c_X11_refuse E hr28) (by decide) rfl ?_
    exact g_iret C R dX11_bribes_45 (fst_of h) (snd_of h)
set_option maxRecDepth 20000 in
set_option maxHeartbeats 2000000 in
theorem c_X11_bribes (E : wEnv) {x1 : Int32} {x2 : Int32} {x3 : Int32} {M : Mem} {q : (Int32 × Mem)} (h : f_X11_bribes x1 x2 x3 M = some q) : Mt E yX11_bribes cX11_bribes 9 (some .int) 5 [.ref (ad E 50 0), .int x1, .int x2, .int x3] M (some (.int q.1)) q.2 := by
  unfold f_X11_bribes at h
  refine mt_intro (own := RX11) (lv0 := [(0, .ref (ad E 50 0)), (1, .int x1), (2, .int x2), (3, .int x3)]) (by decide) rfl rfl rfl (fun Y C R => ?_)
  refine g_aload_n C dX11_bribes_0 rfl rfl ?_
  refine g_iconst (v := (0 : Int32)) C dX11_bribes_1 (by decide) ?_
  refine put_X11_71 C dX11_bribes_2 (by decide) ?_
  refine g_aload_n C dX11_bribes_5 rfl rfl ?_
  refine g_iconst (v := (0 : Int32)) C dX11_bribes_6 (by decide) ?_
  refine put_X11_74 C dX11_bribes_7 (by decide) ?_
  refine g_iload_n C dX11_bribes_10 rfl rfl ?_
  refine g_i2l C dX11_bribes_11 ?_
  obtain ⟨r3, hr3, h⟩ := Option.bind_eq_some_iff.mp h
  refine call_X11_422 C dX11_bribes_12 (c_X11_isVerdict E hr3) (by decide) rfl ?_
  refine g_if_eq (tgt := 40) C dX11_bribes_15 (by decide) h (fun h => ?_) (fun h => ?_)
  · refine g_aload_n C dX11_bribes_40 rfl rfl ?_
    refine g_iconst (v := (5 : Int32)) C dX11_bribes_41 (by decide) ?_
    obtain ⟨q4, hr4, h⟩ := Option.bind_eq_some_iff.mp h
    refine call_X11_340 C dX11_bribes_42 (by decide) (c_X11_refuse E hr4) (by decide) rfl ?_
    exact g_iret C R dX11_bribes_45 (fst_of h) (snd_of h)
  · refine g_iload_n C dX11_bribes_18 rfl rfl ?_
    refine g_iconst (v := (1 : Int32)) C dX11_bribes_19 (by decide) ?_
    refine g_icmp_eq (tgt := 28) C dX11_bribes_20 (by decide) h (fun h => ?_) (fun h => ?_)
    · exact g_sub (b_X11_bribes_28 C R h) ⟨rfl, rfl, rfl, rfl, trivial⟩
    · refine g_iload_n C dX11_bribes_23 rfl rfl ?_
      refine g_iconst (v := (-1 : Int32)) C dX11_bribes_24 (by decide) ?_
      refine g_icmp_ne (tgt := 40) C dX11_bribes_25 (by decide) h (fun h => ?_) (fun h => ?_)
      · refine g_aload_n C dX11_bribes_40 rfl rfl ?_
        refine g_iconst (v := (5 : Int32)) C dX11_bribes_41 (by decide) ?_
        obtain ⟨q29, hr29, h⟩ := Option.bind_eq_some_iff.mp h
        refine call_X11_340 C dX11_bribes_42 (by decide) (c_X11_refuse E hr29) (by decide) rfl ?_
        exact g_iret C R dX11_bribes_45 (fst_of h) (snd_of h)
      · exact g_sub (b_X11_bribes_28 C R h) ⟨rfl, rfl, rfl, rfl, trivial⟩
noncomputable def f_X11_bribeSet (M : Mem) : Option (Int32 × Mem) :=
  let M1 := sR M 50 0 (upd (M.1 50 0) 1 (0 : Int32))
  let M2 := sR M1 50 0 (upd (M1.1 50 0) 0 (0 : Int32))
  if (M2.1 50 0 31) < 0 then
    (f_X11_refuse (8 : Int32) M2).bind fun q3 =>
    some (q3.1, q3.2)
  else
    some ((M2.1 50 0 31), M2)
set_option maxRecDepth 20000 in
set_option maxHeartbeats 2000000 in
theorem c_X11_bribeSet (E : wEnv) {M : Mem} {q : (Int32 × Mem)} (h : f_X11_bribeSet M = some q) : Mt E yX11_bribeSet cX11_bribeSet 1 (some .int) 1 [.ref (ad E 50 0)] M (some (.int q.1)) q.2 := by
  unfold f_X11_bribeSet at h
  refine mt_intro (own := RX11) (lv0 := [(0, .ref (ad E 50 0))]) (by decide) rfl rfl rfl (fun Y C R => ?_)
  refine g_aload_n C dX11_bribeSet_0 rfl rfl ?_
  refine g_iconst (v := (0 : Int32)) C dX11_bribeSet_1 (by decide) ?_
  refine put_X11_71 C dX11_bribeSet_2 (by decide) ?_
  refine g_aload_n C dX11_bribeSet_5 rfl rfl ?_
  refine g_iconst (v := (0 : Int32)) C dX11_bribeSet_6 (by decide) ?_
  refine put_X11_74 C dX11_bribeSet_7 (by decide) ?_
  refine g_aload_n C dX11_bribeSet_10 rfl rfl ?_
  refine get_X11_59 C dX11_bribeSet_11 (by decide) ?_
  refine g_if_ge (tgt := 26) C dX11_bribeSet_14 (by decide) h (fun h => ?_) (fun h => ?_)
  · refine g_aload_n C dX11_bribeSet_26 rfl rfl ?_
    refine get_X11_59 C dX11_bribeSet_27 (by decide) ?_
    exact g_iret C R dX11_bribeSet_30 (fst_of h) (snd_of h)
  · refine g_aload_n C dX11_bribeSet_17 rfl rfl ?_
    refine g_bipush (v := (8 : Int32)) C dX11_bribeSet_18 (by decide) ?_
    obtain ⟨q3, hr3, h⟩ := Option.bind_eq_some_iff.mp h
    refine call_X11_340 C dX11_bribeSet_20 (by decide) (c_X11_refuse E hr3) (by decide) rfl ?_
    refine g_goto (tgt := 30) C dX11_bribeSet_23 (by decide) ?_
    exact g_iret C R dX11_bribeSet_30 (fst_of h) (snd_of h)
noncomputable def f_X11_plays_16 (rec : Int32 → Int32 → Int32 → Mem → Option (Int32 × Mem)) (x1 : Int32) (x2 : Int32) (x3 : Int32) : Nat → Int32 → Int32 → Mem → Option (Int32 × Mem)
  | 0, _, _, _ => none
  | n + 1, x4, x5, M =>
  if x5 < (M.1 55 0 0) then
    (f_X11_strikesOne x5 M).bind fun q1 =>
    if q1.1 = 0 then
      f_X11_plays_16 rec x1 x2 x3 n x4 (x5 + (1 : Int32)) q1.2
    else
      (rec (x1 - (1 : Int32)) (-x2) (0 : Int32) q1.2).bind fun q2 =>
      (f_X11_seatsOne x5 q2.2).bind fun q3 =>
      if (q2.1 * (-x2)) < x4 then
        if x3 = 0 then
          f_X11_plays_16 rec x1 x2 x3 n (q2.1 * (-x2)) (x5 + (1 : Int32)) q3.2
        else
          let M4 := sR q3.2 50 0 (upd (q3.2.1 50 0) 32 x5)
          f_X11_plays_16 rec x1 x2 x3 n (q2.1 * (-x2)) (x5 + (1 : Int32)) M4
      else
        f_X11_plays_16 rec x1 x2 x3 n x4 (x5 + (1 : Int32)) q3.2
  else
    some ((x4 * (-x2)), M)
noncomputable def f_X11_plays : Nat → Int32 → Int32 → Int32 → Mem → Option (Int32 × Mem)
  | 0, _, _, _, _ => none
  | n + 1, x1, x2, x3, M =>
  if x1 = 0 then
    (f_X11_judged M).bind fun r5 =>
    some (r5, M)
  else
    f_X11_plays_16 (f_X11_plays n) x1 x2 x3 FU (9 : Int32) (0 : Int32) M
set_option maxRecDepth 20000 in
set_option maxHeartbeats 2000000 in
theorem b_X11_plays_16 {E : wEnv} {Y : YT} {dd dr : Nat} {rec : Int32 → Int32 → Int32 → Mem → Option (Int32 × Mem)} (C : Cx E Y cX11_plays 7 RX11 dd) (hrec : ∀ {x1 : Int32} {x2 : Int32} {x3 : Int32} {M : Mem} {q : (Int32 × Mem)}, rec x1 x2 x3 M = some q → Mt E yX11_plays cX11_plays 7 (some .int) dr [.ref (ad E 50 0), .int x1, .int x2, .int x3] M (some (.int q.1)) q.2) (hdr : dr + 1 ≤ dd) (hdD : 4 ≤ dr) {q : (Int32 × Mem)} (R : Rx E Y (some .int) (some (.int q.1)) q.2) {x1 : Int32} {x2 : Int32} {x3 : Int32} (n : Nat) : ∀ {x4 : Int32} {x5 : Int32} {M : Mem} (_ : f_X11_plays_16 rec x1 x2 x3 n x4 x5 M = some q), G E Y 7 M 16 [(0, .ref (ad E 50 0)), (1, .int x1), (2, .int x2), (3, .int x3), (4, .int x4), (5, .int x5)] [] := by
  induction n with
  | zero =>
    intro x4 x5 M h
    cases (show none = some q from h)
  | succ n ih =>
    intro x4 x5 M h
    rw [f_X11_plays_16] at h
    refine g_iload C dX11_plays_16 rfl ?_
    refine g_aload_n C dX11_plays_18 rfl rfl ?_
    refine get_X11_35 C dX11_plays_19 (by decide) ?_
    refine g_iconst (v := (0 : Int32)) C dX11_plays_22 (by decide) ?_
    refine ld_55 (j := 0) C dX11_plays_23 (by decide) (by decide) rfl ?_
    refine g_icmp_ge (tgt := 91) C dX11_plays_24 (by decide) h (fun h => ?_) (fun h => ?_)
    · refine g_iload C dX11_plays_91 rfl ?_
      refine g_iload_n C dX11_plays_93 rfl rfl ?_
      refine g_ineg C dX11_plays_94 ?_
      refine g_imul C dX11_plays_95 ?_
      exact g_iret C R dX11_plays_96 (fst_of h) (snd_of h)
    · refine g_aload_n C dX11_plays_27 rfl rfl ?_
      refine g_iload C dX11_plays_28 rfl ?_
      obtain ⟨q1, hr1, h⟩ := Option.bind_eq_some_iff.mp h
      refine call_X11_395 C dX11_plays_30 (by decide) (c_X11_strikesOne E hr1) (by omega) rfl ?_
      refine g_if_ne (tgt := 39) C dX11_plays_33 (by decide) h (fun h => ?_) (fun h => ?_)
      · refine g_aload_n C dX11_plays_39 rfl rfl ?_
        refine g_iload_n C dX11_plays_40 rfl rfl ?_
        refine g_iconst (v := (1 : Int32)) C dX11_plays_41 (by decide) ?_
        refine g_isub C dX11_plays_42 ?_
        refine g_iload_n C dX11_plays_43 rfl rfl ?_
        refine g_ineg C dX11_plays_44 ?_
        refine g_iconst (v := (0 : Int32)) C dX11_plays_45 (by decide) ?_
        obtain ⟨q2, hr2, h⟩ := Option.bind_eq_some_iff.mp h
        refine call_X11_431 C dX11_plays_46 (by decide) (hrec hr2) (by omega) rfl ?_
        refine g_iload_n C dX11_plays_49 rfl rfl ?_
        refine g_ineg C dX11_plays_50 ?_
        refine g_imul C dX11_plays_51 ?_
        refine g_istore C dX11_plays_52 rfl ?_
        refine g_aload_n C dX11_plays_54 rfl rfl ?_
        refine g_iload C dX11_plays_55 rfl ?_
        obtain ⟨q3, hr3, h⟩ := Option.bind_eq_some_iff.mp h
        refine call_X11_398 C dX11_plays_57 (by decide) (c_X11_seatsOne E hr3) (by omega) rfl ?_
        refine g_pop C dX11_plays_60 rfl ?_
        refine g_iload C dX11_plays_61 rfl ?_
        refine g_iload C dX11_plays_63 rfl ?_
        refine g_icmp_lt (tgt := 71) C dX11_plays_65 (by decide) h (fun h => ?_) (fun h => ?_)
        · refine g_iload C dX11_plays_71 rfl ?_
          refine g_istore C dX11_plays_73 rfl ?_
          refine g_iload_n C dX11_plays_75 rfl rfl ?_
          refine g_if_eq (tgt := 85) C dX11_plays_76 (by decide) h (fun h => ?_) (fun h => ?_)
          · refine g_iinc (w := (1 : Int32)) C dX11_plays_85 rfl (by decide) rfl ?_
            refine g_goto (tgt := 16) C dX11_plays_88 (by decide) ?_
            exact g_sub (ih h) ⟨rfl, rfl, rfl, rfl, rfl, rfl, trivial⟩
          · refine g_aload_n C dX11_plays_79 rfl rfl ?_
            refine g_iload C dX11_plays_80 rfl ?_
            refine put_X11_435 C dX11_plays_82 (by decide) ?_
            refine g_iinc (w := (1 : Int32)) C dX11_plays_85 rfl (by decide) rfl ?_
            refine g_goto (tgt := 16) C dX11_plays_88 (by decide) ?_
            exact g_sub (ih h) ⟨rfl, rfl, rfl, rfl, rfl, rfl, trivial⟩
        · refine g_goto (tgt := 85) C dX11_plays_68 (by decide) ?_
          refine g_iinc (w := (1 : Int32)) C dX11_plays_85 rfl (by decide) rfl ?_
          refine g_goto (tgt := 16) C dX11_plays_88 (by decide) ?_
          exact g_sub (ih h) ⟨rfl, rfl, rfl, rfl, rfl, rfl, trivial⟩
      · refine g_goto (tgt := 85) C dX11_plays_36 (by decide) ?_
        refine g_iinc (w := (1 : Int32)) C dX11_plays_85 rfl (by decide) rfl ?_
        refine g_goto (tgt := 16) C dX11_plays_88 (by decide) ?_
        exact g_sub (ih h) ⟨rfl, rfl, rfl, rfl, rfl, rfl, trivial⟩
set_option maxRecDepth 20000 in
set_option maxHeartbeats 2000000 in
theorem c_X11_plays (E : wEnv) (n : Nat) : ∀ {x1 : Int32} {x2 : Int32} {x3 : Int32} {M : Mem} {q : (Int32 × Mem)} (_ : f_X11_plays n x1 x2 x3 M = some q), Mt E yX11_plays cX11_plays 7 (some .int) (4 + 1 * n) [.ref (ad E 50 0), .int x1, .int x2, .int x3] M (some (.int q.1)) q.2 := by
  induction n with
  | zero =>
    intro x1 x2 x3 M q h
    cases (show none = some q from h)
  | succ n ih =>
    intro x1 x2 x3 M q h
    rw [f_X11_plays] at h
    refine mt_intro (own := RX11) (lv0 := [(0, .ref (ad E 50 0)), (1, .int x1), (2, .int x2), (3, .int x3)]) (by decide) rfl rfl rfl (fun Y C R => ?_)
    refine g_iload_n C dX11_plays_0 rfl rfl ?_
    refine g_if_ne (tgt := 9) C dX11_plays_1 (by decide) h (fun h => ?_) (fun h => ?_)
    · refine g_bipush (v := (9 : Int32)) C dX11_plays_9 (by decide) ?_
      refine g_istore C dX11_plays_11 rfl ?_
      refine g_iconst (v := (0 : Int32)) C dX11_plays_13 (by decide) ?_
      refine g_istore C dX11_plays_14 rfl ?_
      exact g_sub (b_X11_plays_16 (dr := 4 + 1 * n) C ih (by omega) (by omega) R _ h) ⟨rfl, rfl, rfl, rfl, rfl, rfl, trivial⟩
    · refine g_aload_n C dX11_plays_4 rfl rfl ?_
      obtain ⟨r5, hr5, h⟩ := Option.bind_eq_some_iff.mp h
      refine call_X11_389 C dX11_plays_5 (by decide) (c_X11_judged E hr5) (by omega) rfl ?_
      exact g_iret C R dX11_plays_8 (fst_of h) (snd_of h)
noncomputable def f_X11_whyNoStrikes (x1 : Int32) (M : Mem) : Option Int32 :=
  (f_X11_isIn x1.toInt64 (1 : Int64) (3 : Int64)).bind fun r1 =>
  if r1 = 0 then
    some (5 : Int32)
  else
    (f_X11_sizeOf (M.1 55 0 10)).bind fun r2 =>
    if r2 < ((2 : Int32) * x1) then
      some (9 : Int32)
    else
      some (0 : Int32)
set_option maxRecDepth 20000 in
set_option maxHeartbeats 2000000 in
theorem c_X11_whyNoStrikes (E : wEnv) {x1 : Int32} {M : Mem} {q : Int32} (h : f_X11_whyNoStrikes x1 M = some q) : Mt E yX11_whyNoStrikes cX11_whyNoStrikes 2 (some .int) 2 [.ref (ad E 50 0), .int x1] M (some (.int q)) M := by
  unfold f_X11_whyNoStrikes at h
  refine mt_intro (own := RX11) (lv0 := [(0, .ref (ad E 50 0)), (1, .int x1)]) (by decide) rfl rfl rfl (fun Y C R => ?_)
  refine g_iload_n C dX11_whyNoStrikes_0 rfl rfl ?_
  refine g_i2l C dX11_whyNoStrikes_1 ?_
  refine g_lconst (v := (1 : Int64)) C dX11_whyNoStrikes_2 (by decide) ?_
  refine g_ldc2 C dX11_whyNoStrikes_3 qc_X11_104 ?_
  obtain ⟨r1, hr1, h⟩ := Option.bind_eq_some_iff.mp h
  refine call_X11_106 C dX11_whyNoStrikes_6 (c_X11_isIn E hr1) (by decide) rfl ?_
  refine g_if_ne (tgt := 16) C dX11_whyNoStrikes_9 (by decide) h (fun h => ?_) (fun h => ?_)
  · refine g_aload_n C dX11_whyNoStrikes_16 rfl rfl ?_
    refine get_X11_35 C dX11_whyNoStrikes_17 (by decide) ?_
    refine g_bipush (v := (10 : Int32)) C dX11_whyNoStrikes_20 (by decide) ?_
    refine ld_55 (j := 10) C dX11_whyNoStrikes_22 (by decide) (by decide) rfl ?_
    obtain ⟨r2, hr2, h⟩ := Option.bind_eq_some_iff.mp h
    refine call_X11_438 C dX11_whyNoStrikes_23 (c_X11_sizeOf E hr2) (by decide) rfl ?_
    refine g_iconst (v := (2 : Int32)) C dX11_whyNoStrikes_26 (by decide) ?_
    refine g_iload_n C dX11_whyNoStrikes_27 rfl rfl ?_
    refine g_imul C dX11_whyNoStrikes_28 ?_
    refine g_icmp_ge (tgt := 37) C dX11_whyNoStrikes_29 (by decide) h (fun h => ?_) (fun h => ?_)
    · refine g_iconst (v := (0 : Int32)) C dX11_whyNoStrikes_37 (by decide) ?_
      exact g_iret C R dX11_whyNoStrikes_38 (Option.some.inj h) rfl
    · refine g_bipush (v := (9 : Int32)) C dX11_whyNoStrikes_32 (by decide) ?_
      refine g_goto (tgt := 38) C dX11_whyNoStrikes_34 (by decide) ?_
      exact g_iret C R dX11_whyNoStrikes_38 (Option.some.inj h) rfl
  · refine g_iconst (v := (5 : Int32)) C dX11_whyNoStrikes_12 (by decide) ?_
    refine g_goto (tgt := 38) C dX11_whyNoStrikes_13 (by decide) ?_
    exact g_iret C R dX11_whyNoStrikes_38 (Option.some.inj h) rfl
noncomputable def f_X11_strikes (x1 : Int32) (M : Mem) : Option (Int32 × Mem) :=
  let M1 := sR M 50 0 (upd (M.1 50 0) 1 (0 : Int32))
  (f_X11_whyNoStrikes x1 M1).bind fun r2 =>
  let M3 := sR M1 50 0 (upd (M1.1 50 0) 0 r2)
  if 0 < (M3.1 50 0 0) then
    some ((-1 : Int32), M3)
  else
    (f_X11_plays 40 ((2 : Int32) * x1) (-1 : Int32) (1 : Int32) M3).bind fun q4 =>
    some (q4.1, q4.2)
set_option maxRecDepth 20000 in
set_option maxHeartbeats 2000000 in
theorem c_X11_strikes (E : wEnv) {x1 : Int32} {M : Mem} {q : (Int32 × Mem)} (h : f_X11_strikes x1 M = some q) : Mt E yX11_strikes cX11_strikes 2 (some .int) 45 [.ref (ad E 50 0), .int x1] M (some (.int q.1)) q.2 := by
  unfold f_X11_strikes at h
  refine mt_intro (own := RX11) (lv0 := [(0, .ref (ad E 50 0)), (1, .int x1)]) (by decide) rfl rfl rfl (fun Y C R => ?_)
  refine g_aload_n C dX11_strikes_0 rfl rfl ?_
  refine g_iconst (v := (0 : Int32)) C dX11_strikes_1 (by decide) ?_
  refine put_X11_71 C dX11_strikes_2 (by decide) ?_
  refine g_aload_n C dX11_strikes_5 rfl rfl ?_
  refine g_aload_n C dX11_strikes_6 rfl rfl ?_
  refine g_iload_n C dX11_strikes_7 rfl rfl ?_
  obtain ⟨r2, hr2, h⟩ := Option.bind_eq_some_iff.mp h
  refine call_X11_441 C dX11_strikes_8 (by decide) (c_X11_whyNoStrikes E hr2) (by decide) rfl ?_
  refine put_X11_74 C dX11_strikes_11 (by decide) ?_
  refine g_aload_n C dX11_strikes_14 rfl rfl ?_
  refine get_X11_74 C dX11_strikes_15 (by decide) ?_
  refine g_if_le (tgt := 25) C dX11_strikes_18 (by decide) h (fun h => ?_) (fun h => ?_)
  · refine g_aload_n C dX11_strikes_25 rfl rfl ?_
    refine g_iconst (v := (2 : Int32)) C dX11_strikes_26 (by decide) ?_
    refine g_iload_n C dX11_strikes_27 rfl rfl ?_
    refine g_imul C dX11_strikes_28 ?_
    refine g_iconst (v := (-1 : Int32)) C dX11_strikes_29 (by decide) ?_
    refine g_iconst (v := (1 : Int32)) C dX11_strikes_30 (by decide) ?_
    obtain ⟨q4, hr4, h⟩ := Option.bind_eq_some_iff.mp h
    refine call_X11_431 C dX11_strikes_31 (by decide) (c_X11_plays E 40 hr4) (by decide) rfl ?_
    exact g_iret C R dX11_strikes_34 (fst_of h) (snd_of h)
  · refine g_iconst (v := (-1 : Int32)) C dX11_strikes_21 (by decide) ?_
    refine g_goto (tgt := 34) C dX11_strikes_22 (by decide) ?_
    exact g_iret C R dX11_strikes_34 (fst_of h) (snd_of h)
noncomputable def f_X11_firstStrike (x1 : Int32) (M : Mem) : Option (Int32 × Mem) :=
  let M1 := sR M 50 0 (upd (M.1 50 0) 1 (0 : Int32))
  (f_X11_whyNoStrikes x1 M1).bind fun r2 =>
  let M3 := sR M1 50 0 (upd (M1.1 50 0) 0 r2)
  if 0 < (M3.1 50 0 0) then
    some ((-1 : Int32), M3)
  else
    (f_X11_plays 40 ((2 : Int32) * x1) (-1 : Int32) (1 : Int32) M3).bind fun q4 =>
    some ((q4.2.1 50 0 32), q4.2)
set_option maxRecDepth 20000 in
set_option maxHeartbeats 2000000 in
theorem c_X11_firstStrike (E : wEnv) {x1 : Int32} {M : Mem} {q : (Int32 × Mem)} (h : f_X11_firstStrike x1 M = some q) : Mt E yX11_firstStrike cX11_firstStrike 2 (some .int) 45 [.ref (ad E 50 0), .int x1] M (some (.int q.1)) q.2 := by
  unfold f_X11_firstStrike at h
  refine mt_intro (own := RX11) (lv0 := [(0, .ref (ad E 50 0)), (1, .int x1)]) (by decide) rfl rfl rfl (fun Y C R => ?_)
  refine g_aload_n C dX11_firstStrike_0 rfl rfl ?_
  refine g_iconst (v := (0 : Int32)) C dX11_firstStrike_1 (by decide) ?_
  refine put_X11_71 C dX11_firstStrike_2 (by decide) ?_
  refine g_aload_n C dX11_firstStrike_5 rfl rfl ?_
  refine g_aload_n C dX11_firstStrike_6 rfl rfl ?_
  refine g_iload_n C dX11_firstStrike_7 rfl rfl ?_
  obtain ⟨r2, hr2, h⟩ := Option.bind_eq_some_iff.mp h
  refine call_X11_441 C dX11_firstStrike_8 (by decide) (c_X11_whyNoStrikes E hr2) (by decide) rfl ?_
  refine put_X11_74 C dX11_firstStrike_11 (by decide) ?_
  refine g_aload_n C dX11_firstStrike_14 rfl rfl ?_
  refine get_X11_74 C dX11_firstStrike_15 (by decide) ?_
  refine g_if_le (tgt := 23) C dX11_firstStrike_18 (by decide) h (fun h => ?_) (fun h => ?_)
  · refine g_aload_n C dX11_firstStrike_23 rfl rfl ?_
    refine g_iconst (v := (2 : Int32)) C dX11_firstStrike_24 (by decide) ?_
    refine g_iload_n C dX11_firstStrike_25 rfl rfl ?_
    refine g_imul C dX11_firstStrike_26 ?_
    refine g_iconst (v := (-1 : Int32)) C dX11_firstStrike_27 (by decide) ?_
    refine g_iconst (v := (1 : Int32)) C dX11_firstStrike_28 (by decide) ?_
    obtain ⟨q4, hr4, h⟩ := Option.bind_eq_some_iff.mp h
    refine call_X11_431 C dX11_firstStrike_29 (by decide) (c_X11_plays E 40 hr4) (by decide) rfl ?_
    refine g_pop C dX11_firstStrike_32 rfl ?_
    refine g_aload_n C dX11_firstStrike_33 rfl rfl ?_
    refine get_X11_435 C dX11_firstStrike_34 (by decide) ?_
    exact g_iret C R dX11_firstStrike_37 (fst_of h) (snd_of h)
  · refine g_iconst (v := (-1 : Int32)) C dX11_firstStrike_21 (by decide) ?_
    exact g_iret C R dX11_firstStrike_22 (fst_of h) (snd_of h)
noncomputable def f_X11_drawn_116 (k153 : Mem → Option (Int32 × Mem)) (x1 : Int32) (x2 : Int32) (x3 : Int32) (l4 : Int64) (l6 : Int64) (x8 : Int32) : Nat → Int32 → Mem → Option (Int32 × Mem)
  | 0, _, _ => none
  | n + 1, x9, M =>
  if x9 < (M.1 55 0 0) then
    if inb ((12 : Int32) + x9) 2375 = true then
     if inb ((42 : Int32) + x9) 2375 = true then
      let M19 := sR M 55 0 (upd (M.1 55 0) (((42 : Int32) + x9).toNatClampNeg) (M.1 55 0 (((12 : Int32) + x9).toNatClampNeg)))
      f_X11_drawn_116 k153 x1 x2 x3 l4 l6 x8 n (x9 + (1 : Int32)) M19
     else none
    else none
  else
    k153 M
noncomputable def f_X11_drawn_65 (x1 : Int32) (x2 : Int32) (x3 : Int32) : Nat → Int64 → Int64 → Int32 → Mem → Option (Int32 × Mem)
  | 0, _, _, _, _ => none
  | n + 1, l4, l6, x8, M =>
  if x8 < ((1 : Int32) <<< ((M.1 55 0 0) &&& 31)) then
    (f_X11_sizeOf x8).bind fun r14 =>
    if r14 = x1 then
      let M15 := sR M 55 0 (upd (M.1 55 0) 10 x8)
      let M16 := sR M15 55 0 (upd (M15.1 55 0) 7 (0 : Int32))
      f_X11_drawn_116 (fun M_20 =>
          (f_X11_talksFor x2 M_20).bind fun M21 =>
          (f_X11_judged M21).bind fun r22 =>
          if r22 = x3 then
            f_X11_drawn_65 x1 x2 x3 n (l4 + (1 : Int64)) (l6 + (1 : Int64)) (x8 + (1 : Int32)) M21
          else
            f_X11_drawn_65 x1 x2 x3 n (l4 + (1 : Int64)) (l6 + (0 : Int64)) (x8 + (1 : Int32)) M21) x1 x2 x3 (l4 + (1 : Int64)) l6 x8 FU (0 : Int32) M16
    else
      f_X11_drawn_65 x1 x2 x3 n l4 l6 (x8 + (1 : Int32)) M
  else
    (f_X11_gives M).bind fun M11 =>
    (f_X11_fraction l6 l4 M11).bind fun q12 =>
    if isB q12.1 = true then some (q12.1, q12.2) else none
noncomputable def f_X11_drawn (x1 : Int32) (x2 : Int32) (x3 : Int32) (M : Mem) : Option (Int32 × Mem) :=
  let M1 := sR M 50 0 (upd (M.1 50 0) 1 (0 : Int32))
  let M2 := sR M1 50 0 (upd (M1.1 50 0) 0 (0 : Int32))
  (f_X11_isIn x1.toInt64 (1 : Int64) ((M2.1 55 0 0).toInt64)).bind fun r3 =>
  if r3 = 0 then
    (f_X11_no (5 : Int32) M2).bind fun q4 =>
    if isB q4.1 = true then some (q4.1, q4.2) else none
  else
    (f_X11_isIn x2.toInt64 (0 : Int64) (9 : Int64)).bind fun r6 =>
    if r6 = 0 then
      (f_X11_no (5 : Int32) M2).bind fun q7 =>
      if isB q7.1 = true then some (q7.1, q7.2) else none
    else
      (f_X11_isVerdict x3.toInt64).bind fun r9 =>
      if r9 = 0 then
        (f_X11_no (5 : Int32) M2).bind fun q23 =>
        if isB q23.1 = true then some (q23.1, q23.2) else none
      else
        (f_X11_keeps M2).bind fun M10 =>
        f_X11_drawn_65 x1 x2 x3 FU (0 : Int64) (0 : Int64) (0 : Int32) M10
set_option maxRecDepth 20000 in
set_option maxHeartbeats 2000000 in
theorem b_X11_drawn_116 {E : wEnv} {Y : YT} (C : Cx E Y cX11_drawn 10 RX11 5) {q : (Int32 × Mem)} (R : Rx E Y (some .boolean) (some (.int q.1)) q.2) {x1 : Int32} {x2 : Int32} {x3 : Int32} {l4 : Int64} {l6 : Int64} {x8 : Int32} {k153 : Mem → Option (Int32 × Mem)} (hk153 : ∀ {M : Mem} , k153 M = some q → G E Y 10 M 153 [(0, .ref (ad E 50 0)), (1, .int x1), (2, .int x2), (3, .int x3), (4, .long l4), (6, .long l6), (8, .int x8)] []) (n : Nat) : ∀ {x9 : Int32} {M : Mem} (_ : f_X11_drawn_116 k153 x1 x2 x3 l4 l6 x8 n x9 M = some q), G E Y 10 M 116 [(0, .ref (ad E 50 0)), (1, .int x1), (2, .int x2), (3, .int x3), (4, .long l4), (6, .long l6), (8, .int x8), (9, .int x9)] [] := by
  induction n with
  | zero =>
    intro x9 M h
    cases (show none = some q from h)
  | succ n ih =>
    intro x9 M h
    rw [f_X11_drawn_116] at h
    refine g_iload C dX11_drawn_116 rfl ?_
    refine g_aload_n C dX11_drawn_118 rfl rfl ?_
    refine get_X11_35 C dX11_drawn_119 (by decide) ?_
    refine g_iconst (v := (0 : Int32)) C dX11_drawn_122 (by decide) ?_
    refine ld_55 (j := 0) C dX11_drawn_123 (by decide) (by decide) rfl ?_
    refine g_icmp_ge (tgt := 153) C dX11_drawn_124 (by decide) h (fun h => ?_) (fun h => ?_)
    · exact g_sub (hk153 h) ⟨rfl, rfl, rfl, rfl, rfl, rfl, rfl, trivial⟩
    · refine g_aload_n C dX11_drawn_127 rfl rfl ?_
      refine get_X11_35 C dX11_drawn_128 (by decide) ?_
      refine g_bipush (v := (42 : Int32)) C dX11_drawn_131 (by decide) ?_
      refine g_iload C dX11_drawn_133 rfl ?_
      refine g_iadd C dX11_drawn_135 ?_
      refine g_aload_n C dX11_drawn_136 rfl rfl ?_
      refine get_X11_35 C dX11_drawn_137 (by decide) ?_
      refine g_bipush (v := (12 : Int32)) C dX11_drawn_140 (by decide) ?_
      refine g_iload C dX11_drawn_142 rfl ?_
      refine g_iadd C dX11_drawn_144 ?_
      obtain ⟨hb17, h⟩ := of_ite h
      refine ld_55 (j := _) C dX11_drawn_145 (by decide) hb17 rfl ?_
      obtain ⟨hb18, h⟩ := of_ite h
      refine st_55 (j := _) C dX11_drawn_146 (by decide) hb18 rfl ?_
      refine g_iinc (w := (1 : Int32)) C dX11_drawn_147 rfl (by decide) rfl ?_
      refine g_goto (tgt := 116) C dX11_drawn_150 (by decide) ?_
      exact g_sub (ih h) ⟨rfl, rfl, rfl, rfl, rfl, rfl, rfl, rfl, trivial⟩
set_option maxRecDepth 20000 in
set_option maxHeartbeats 2000000 in
theorem b_X11_drawn_65 {E : wEnv} {Y : YT} (C : Cx E Y cX11_drawn 10 RX11 5) {q : (Int32 × Mem)} (R : Rx E Y (some .boolean) (some (.int q.1)) q.2) {x1 : Int32} {x2 : Int32} {x3 : Int32} (n : Nat) : ∀ {l4 : Int64} {l6 : Int64} {x8 : Int32} {M : Mem} (_ : f_X11_drawn_65 x1 x2 x3 n l4 l6 x8 M = some q), G E Y 10 M 65 [(0, .ref (ad E 50 0)), (1, .int x1), (2, .int x2), (3, .int x3), (4, .long l4), (6, .long l6), (8, .int x8)] [] := by
  induction n with
  | zero =>
    intro l4 l6 x8 M h
    cases (show none = some q from h)
  | succ n ih =>
    intro l4 l6 x8 M h
    rw [f_X11_drawn_65] at h
    refine g_iload C dX11_drawn_65 rfl ?_
    refine g_iconst (v := (1 : Int32)) C dX11_drawn_67 (by decide) ?_
    refine g_aload_n C dX11_drawn_68 rfl rfl ?_
    refine get_X11_35 C dX11_drawn_69 (by decide) ?_
    refine g_iconst (v := (0 : Int32)) C dX11_drawn_72 (by decide) ?_
    refine ld_55 (j := 0) C dX11_drawn_73 (by decide) (by decide) rfl ?_
    refine g_ishl C dX11_drawn_74 ?_
    refine g_icmp_ge (tgt := 182) C dX11_drawn_75 (by decide) h (fun h => ?_) (fun h => ?_)
    · refine g_aload_n C dX11_drawn_182 rfl rfl ?_
      obtain ⟨M11, hr11, h⟩ := Option.bind_eq_some_iff.mp h
      refine call_X11_417 C dX11_drawn_183 (by decide) (c_X11_gives E hr11) (by decide) rfl ?_
      refine g_aload_n C dX11_drawn_186 rfl rfl ?_
      refine g_lload C dX11_drawn_187 rfl ?_
      refine g_lload C dX11_drawn_189 rfl ?_
      obtain ⟨q12, hr12, h⟩ := Option.bind_eq_some_iff.mp h
      refine call_X11_444 C dX11_drawn_191 (by decide) (c_X11_fraction E hr12) (by decide) rfl ?_
      obtain ⟨hz13, h⟩ := of_ite h
      exact g_zret C R dX11_drawn_194 (fst_of h) (isB_of hz13) (snd_of h)
    · refine g_iload C dX11_drawn_78 rfl ?_
      obtain ⟨r14, hr14, h⟩ := Option.bind_eq_some_iff.mp h
      refine call_X11_438 C dX11_drawn_80 (c_X11_sizeOf E hr14) (by decide) rfl ?_
      refine g_iload_n C dX11_drawn_83 rfl rfl ?_
      refine g_icmp_eq (tgt := 90) C dX11_drawn_84 (by decide) h (fun h => ?_) (fun h => ?_)
      · refine g_lload C dX11_drawn_90 rfl ?_
        refine g_lconst (v := (1 : Int64)) C dX11_drawn_92 (by decide) ?_
        refine g_ladd C dX11_drawn_93 ?_
        refine g_lstore C dX11_drawn_94 rfl ?_
        refine g_aload_n C dX11_drawn_96 rfl rfl ?_
        refine get_X11_35 C dX11_drawn_97 (by decide) ?_
        refine g_bipush (v := (10 : Int32)) C dX11_drawn_100 (by decide) ?_
        refine g_iload C dX11_drawn_102 rfl ?_
        refine st_55 (j := 10) C dX11_drawn_104 (by decide) (by decide) rfl ?_
        refine g_aload_n C dX11_drawn_105 rfl rfl ?_
        refine get_X11_35 C dX11_drawn_106 (by decide) ?_
        refine g_bipush (v := (7 : Int32)) C dX11_drawn_109 (by decide) ?_
        refine g_iconst (v := (0 : Int32)) C dX11_drawn_111 (by decide) ?_
        refine st_55 (j := 7) C dX11_drawn_112 (by decide) (by decide) rfl ?_
        refine g_iconst (v := (0 : Int32)) C dX11_drawn_113 (by decide) ?_
        refine g_istore C dX11_drawn_114 rfl ?_
        refine g_sub (b_X11_drawn_116 C R ?_ _ h) ⟨rfl, rfl, rfl, rfl, rfl, rfl, rfl, rfl, trivial⟩
        · clear h
          intro M_20 h
          refine g_aload_n C dX11_drawn_153 rfl rfl ?_
          refine g_iload_n C dX11_drawn_154 rfl rfl ?_
          obtain ⟨M21, hr21, h⟩ := Option.bind_eq_some_iff.mp h
          refine call_X11_386 C dX11_drawn_155 (by decide) (c_X11_talksFor E hr21) (by decide) rfl ?_
          refine g_lload C dX11_drawn_158 rfl ?_
          refine g_aload_n C dX11_drawn_160 rfl rfl ?_
          obtain ⟨r22, hr22, h⟩ := Option.bind_eq_some_iff.mp h
          refine call_X11_389 C dX11_drawn_161 (by decide) (c_X11_judged E hr22) (by decide) rfl ?_
          refine g_iload_n C dX11_drawn_164 rfl rfl ?_
          refine g_icmp_ne (tgt := 172) C dX11_drawn_165 (by decide) h (fun h => ?_) (fun h => ?_)
          · refine g_lconst (v := (0 : Int64)) C dX11_drawn_172 (by decide) ?_
            refine g_ladd C dX11_drawn_173 ?_
            refine g_lstore C dX11_drawn_174 rfl ?_
            refine g_iinc (w := (1 : Int32)) C dX11_drawn_176 rfl (by decide) rfl ?_
            refine g_goto (tgt := 65) C dX11_drawn_179 (by decide) ?_
            exact g_sub (ih h) ⟨rfl, rfl, rfl, rfl, rfl, rfl, rfl, trivial⟩
          · refine g_lconst (v := (1 : Int64)) C dX11_drawn_168 (by decide) ?_
            refine g_goto (tgt := 173) C dX11_drawn_169 (by decide) ?_
            refine g_ladd C dX11_drawn_173 ?_
            refine g_lstore C dX11_drawn_174 rfl ?_
            refine g_iinc (w := (1 : Int32)) C dX11_drawn_176 rfl (by decide) rfl ?_
            refine g_goto (tgt := 65) C dX11_drawn_179 (by decide) ?_
            exact g_sub (ih h) ⟨rfl, rfl, rfl, rfl, rfl, rfl, rfl, trivial⟩
      · refine g_goto (tgt := 176) C dX11_drawn_87 (by decide) ?_
        refine g_iinc (w := (1 : Int32)) C dX11_drawn_176 rfl (by decide) rfl ?_
        refine g_goto (tgt := 65) C dX11_drawn_179 (by decide) ?_
        exact g_sub (ih h) ⟨rfl, rfl, rfl, rfl, rfl, rfl, rfl, trivial⟩
set_option maxRecDepth 20000 in
set_option maxHeartbeats 2000000 in
theorem c_X11_drawn (E : wEnv) {x1 : Int32} {x2 : Int32} {x3 : Int32} {M : Mem} {q : (Int32 × Mem)} (h : f_X11_drawn x1 x2 x3 M = some q) : Mt E yX11_drawn cX11_drawn 10 (some .boolean) 5 [.ref (ad E 50 0), .int x1, .int x2, .int x3] M (some (.int q.1)) q.2 := by
  unfold f_X11_drawn at h
  refine mt_intro (own := RX11) (lv0 := [(0, .ref (ad E 50 0)), (1, .int x1), (2, .int x2), (3, .int x3)]) (by decide) rfl rfl rfl (fun Y C R => ?_)
  refine g_aload_n C dX11_drawn_0 rfl rfl ?_
  refine g_iconst (v := (0 : Int32)) C dX11_drawn_1 (by decide) ?_
  refine put_X11_71 C dX11_drawn_2 (by decide) ?_
  refine g_aload_n C dX11_drawn_5 rfl rfl ?_
  refine g_iconst (v := (0 : Int32)) C dX11_drawn_6 (by decide) ?_
  refine put_X11_74 C dX11_drawn_7 (by decide) ?_
  refine g_iload_n C dX11_drawn_10 rfl rfl ?_
  refine g_i2l C dX11_drawn_11 ?_
  refine g_lconst (v := (1 : Int64)) C dX11_drawn_12 (by decide) ?_
  refine g_aload_n C dX11_drawn_13 rfl rfl ?_
  refine get_X11_35 C dX11_drawn_14 (by decide) ?_
  refine g_iconst (v := (0 : Int32)) C dX11_drawn_17 (by decide) ?_
  refine ld_55 (j := 0) C dX11_drawn_18 (by decide) (by decide) rfl ?_
  refine g_i2l C dX11_drawn_19 ?_
  obtain ⟨r3, hr3, h⟩ := Option.bind_eq_some_iff.mp h
  refine call_X11_106 C dX11_drawn_20 (c_X11_isIn E hr3) (by decide) rfl ?_
  refine g_if_eq (tgt := 46) C dX11_drawn_23 (by decide) h (fun h => ?_) (fun h => ?_)
  · refine g_aload_n C dX11_drawn_46 rfl rfl ?_
    refine g_iconst (v := (5 : Int32)) C dX11_drawn_47 (by decide) ?_
    obtain ⟨q4, hr4, h⟩ := Option.bind_eq_some_iff.mp h
    refine call_X11_86 C dX11_drawn_48 (by decide) (c_X11_no E hr4) (by decide) rfl ?_
    obtain ⟨hz5, h⟩ := of_ite h
    exact g_zret C R dX11_drawn_51 (fst_of h) (isB_of hz5) (snd_of h)
  · refine g_iload_n C dX11_drawn_26 rfl rfl ?_
    refine g_i2l C dX11_drawn_27 ?_
    refine g_lconst (v := (0 : Int64)) C dX11_drawn_28 (by decide) ?_
    refine g_ldc2 C dX11_drawn_29 qc_X11_429 ?_
    obtain ⟨r6, hr6, h⟩ := Option.bind_eq_some_iff.mp h
    refine call_X11_106 C dX11_drawn_32 (c_X11_isIn E hr6) (by decide) rfl ?_
    refine g_if_eq (tgt := 46) C dX11_drawn_35 (by decide) h (fun h => ?_) (fun h => ?_)
    · refine g_aload_n C dX11_drawn_46 rfl rfl ?_
      refine g_iconst (v := (5 : Int32)) C dX11_drawn_47 (by decide) ?_
      obtain ⟨q7, hr7, h⟩ := Option.bind_eq_some_iff.mp h
      refine call_X11_86 C dX11_drawn_48 (by decide) (c_X11_no E hr7) (by decide) rfl ?_
      obtain ⟨hz8, h⟩ := of_ite h
      exact g_zret C R dX11_drawn_51 (fst_of h) (isB_of hz8) (snd_of h)
    · refine g_iload_n C dX11_drawn_38 rfl rfl ?_
      refine g_i2l C dX11_drawn_39 ?_
      obtain ⟨r9, hr9, h⟩ := Option.bind_eq_some_iff.mp h
      refine call_X11_422 C dX11_drawn_40 (c_X11_isVerdict E hr9) (by decide) rfl ?_
      refine g_if_ne (tgt := 52) C dX11_drawn_43 (by decide) h (fun h => ?_) (fun h => ?_)
      · refine g_aload_n C dX11_drawn_52 rfl rfl ?_
        obtain ⟨M10, hr10, h⟩ := Option.bind_eq_some_iff.mp h
        refine call_X11_411 C dX11_drawn_53 (by decide) (c_X11_keeps E hr10) (by decide) rfl ?_
        refine g_lconst (v := (0 : Int64)) C dX11_drawn_56 (by decide) ?_
        refine g_lstore C dX11_drawn_57 rfl ?_
        refine g_lconst (v := (0 : Int64)) C dX11_drawn_59 (by decide) ?_
        refine g_lstore C dX11_drawn_60 rfl ?_
        refine g_iconst (v := (0 : Int32)) C dX11_drawn_62 (by decide) ?_
        refine g_istore C dX11_drawn_63 rfl ?_
        exact g_sub (b_X11_drawn_65 C R _ h) ⟨rfl, rfl, rfl, rfl, rfl, rfl, rfl, trivial⟩
      · refine g_aload_n C dX11_drawn_46 rfl rfl ?_
        refine g_iconst (v := (5 : Int32)) C dX11_drawn_47 (by decide) ?_
        obtain ⟨q23, hr23, h⟩ := Option.bind_eq_some_iff.mp h
        refine call_X11_86 C dX11_drawn_48 (by decide) (c_X11_no E hr23) (by decide) rfl ?_
        obtain ⟨hz24, h⟩ := of_ite h
        exact g_zret C R dX11_drawn_51 (fst_of h) (isB_of hz24) (snd_of h)
noncomputable def f_X11_goesRow_49 (x1 : Int32) (x2 : Int32) (M : Mem) : Nat → Int32 → Option Int32
  | 0, _ => none
  | n + 1, x3 =>
  if x3 < x2 then
    (f_X11_numberOf x1 x3 M).bind fun r5 =>
    (f_X11_isVerdict r5).bind fun r6 =>
    if r6 = 0 then
      some (5 : Int32)
    else
      f_X11_goesRow_49 x1 x2 M n (x3 + (1 : Int32))
  else
    if (M.1 55 0 8) < 0 then
      some (8 : Int32)
    else
      some (0 : Int32)
noncomputable def f_X11_goesRow (x1 : Int32) (x2 : Int32) (M : Mem) : Option Int32 :=
  (f_X11_isTray x1).bind fun r1 =>
  if r1 = 0 then
    some (1 : Int32)
  else
    if inb x1 4 = true then
     if (M.1 52 0 x1.toNatClampNeg) < 0 then
       some (3 : Int32)
     else
       if inb x1 4 = true then
        if (M.1 52 0 x1.toNatClampNeg) < x2 then
          some (4 : Int32)
        else
          (f_X11_isIn x2.toInt64 (0 : Int64) (60 : Int64)).bind fun r4 =>
          if r4 = 0 then
            some (5 : Int32)
          else
            f_X11_goesRow_49 x1 x2 M FU (0 : Int32)
       else none
    else none
set_option maxRecDepth 20000 in
set_option maxHeartbeats 2000000 in
theorem b_X11_goesRow_49 {E : wEnv} {Y : YT} (C : Cx E Y cX11_goesRow 4 RX11 2) {q : Int32} {M : Mem} (R : Rx E Y (some .int) (some (.int q)) M) {x1 : Int32} {x2 : Int32} (n : Nat) : ∀ {x3 : Int32} (_ : f_X11_goesRow_49 x1 x2 M n x3 = some q), G E Y 4 M 49 [(0, .ref (ad E 50 0)), (1, .int x1), (2, .int x2), (3, .int x3)] [] := by
  induction n with
  | zero =>
    intro x3 h
    cases (show none = some q from h)
  | succ n ih =>
    intro x3 h
    rw [f_X11_goesRow_49] at h
    refine g_iload_n C dX11_goesRow_49 rfl rfl ?_
    refine g_iload_n C dX11_goesRow_50 rfl rfl ?_
    refine g_icmp_ge (tgt := 74) C dX11_goesRow_51 (by decide) h (fun h => ?_) (fun h => ?_)
    · refine g_aload_n C dX11_goesRow_74 rfl rfl ?_
      refine get_X11_35 C dX11_goesRow_75 (by decide) ?_
      refine g_bipush (v := (8 : Int32)) C dX11_goesRow_78 (by decide) ?_
      refine ld_55 (j := 8) C dX11_goesRow_80 (by decide) (by decide) rfl ?_
      refine g_if_ge (tgt := 89) C dX11_goesRow_81 (by decide) h (fun h => ?_) (fun h => ?_)
      · refine g_iconst (v := (0 : Int32)) C dX11_goesRow_89 (by decide) ?_
        exact g_iret C R dX11_goesRow_90 (Option.some.inj h) rfl
      · refine g_bipush (v := (8 : Int32)) C dX11_goesRow_84 (by decide) ?_
        refine g_goto (tgt := 90) C dX11_goesRow_86 (by decide) ?_
        exact g_iret C R dX11_goesRow_90 (Option.some.inj h) rfl
    · refine g_aload_n C dX11_goesRow_54 rfl rfl ?_
      refine g_iload_n C dX11_goesRow_55 rfl rfl ?_
      refine g_iload_n C dX11_goesRow_56 rfl rfl ?_
      obtain ⟨r5, hr5, h⟩ := Option.bind_eq_some_iff.mp h
      refine call_X11_450 C dX11_goesRow_57 (by decide) (c_X11_numberOf E hr5) (by decide) rfl ?_
      obtain ⟨r6, hr6, h⟩ := Option.bind_eq_some_iff.mp h
      refine call_X11_422 C dX11_goesRow_60 (c_X11_isVerdict E hr6) (by decide) rfl ?_
      refine g_if_ne (tgt := 68) C dX11_goesRow_63 (by decide) h (fun h => ?_) (fun h => ?_)
      · refine g_iinc (w := (1 : Int32)) C dX11_goesRow_68 rfl (by decide) rfl ?_
        refine g_goto (tgt := 49) C dX11_goesRow_71 (by decide) ?_
        exact g_sub (ih h) ⟨rfl, rfl, rfl, rfl, trivial⟩
      · refine g_iconst (v := (5 : Int32)) C dX11_goesRow_66 (by decide) ?_
        exact g_iret C R dX11_goesRow_67 (Option.some.inj h) rfl
set_option maxRecDepth 20000 in
set_option maxHeartbeats 2000000 in
theorem c_X11_goesRow (E : wEnv) {x1 : Int32} {x2 : Int32} {M : Mem} {q : Int32} (h : f_X11_goesRow x1 x2 M = some q) : Mt E yX11_goesRow cX11_goesRow 4 (some .int) 2 [.ref (ad E 50 0), .int x1, .int x2] M (some (.int q)) M := by
  unfold f_X11_goesRow at h
  refine mt_intro (own := RX11) (lv0 := [(0, .ref (ad E 50 0)), (1, .int x1), (2, .int x2)]) (by decide) rfl rfl rfl (fun Y C R => ?_)
  refine g_aload_n C dX11_goesRow_0 rfl rfl ?_
  refine g_iload_n C dX11_goesRow_1 rfl rfl ?_
  obtain ⟨r1, hr1, h⟩ := Option.bind_eq_some_iff.mp h
  refine call_X11_358 C dX11_goesRow_2 (by decide) (c_X11_isTray E hr1) (by decide) rfl ?_
  refine g_if_ne (tgt := 10) C dX11_goesRow_5 (by decide) h (fun h => ?_) (fun h => ?_)
  · refine g_aload_n C dX11_goesRow_10 rfl rfl ?_
    refine get_X11_17 C dX11_goesRow_11 (by decide) ?_
    refine g_iload_n C dX11_goesRow_14 rfl rfl ?_
    obtain ⟨hb2, h⟩ := of_ite h
    refine ld_52 (j := _) C dX11_goesRow_15 (by decide) hb2 rfl ?_
    refine g_if_ge (tgt := 21) C dX11_goesRow_16 (by decide) h (fun h => ?_) (fun h => ?_)
    · refine g_aload_n C dX11_goesRow_21 rfl rfl ?_
      refine get_X11_17 C dX11_goesRow_22 (by decide) ?_
      refine g_iload_n C dX11_goesRow_25 rfl rfl ?_
      obtain ⟨hb3, h⟩ := of_ite h
      refine ld_52 (j := _) C dX11_goesRow_26 (by decide) hb3 rfl ?_
      refine g_iload_n C dX11_goesRow_27 rfl rfl ?_
      refine g_icmp_ge (tgt := 33) C dX11_goesRow_28 (by decide) h (fun h => ?_) (fun h => ?_)
      · refine g_iload_n C dX11_goesRow_33 rfl rfl ?_
        refine g_i2l C dX11_goesRow_34 ?_
        refine g_lconst (v := (0 : Int64)) C dX11_goesRow_35 (by decide) ?_
        refine g_ldc2 C dX11_goesRow_36 qc_X11_448 ?_
        obtain ⟨r4, hr4, h⟩ := Option.bind_eq_some_iff.mp h
        refine call_X11_106 C dX11_goesRow_39 (c_X11_isIn E hr4) (by decide) rfl ?_
        refine g_if_ne (tgt := 47) C dX11_goesRow_42 (by decide) h (fun h => ?_) (fun h => ?_)
        · refine g_iconst (v := (0 : Int32)) C dX11_goesRow_47 (by decide) ?_
          refine g_istore_n C dX11_goesRow_48 rfl rfl ?_
          exact g_sub (b_X11_goesRow_49 C R _ h) ⟨rfl, rfl, rfl, rfl, trivial⟩
        · refine g_iconst (v := (5 : Int32)) C dX11_goesRow_45 (by decide) ?_
          exact g_iret C R dX11_goesRow_46 (Option.some.inj h) rfl
      · refine g_iconst (v := (4 : Int32)) C dX11_goesRow_31 (by decide) ?_
        exact g_iret C R dX11_goesRow_32 (Option.some.inj h) rfl
    · refine g_iconst (v := (3 : Int32)) C dX11_goesRow_19 (by decide) ?_
      exact g_iret C R dX11_goesRow_20 (Option.some.inj h) rfl
  · refine g_iconst (v := (1 : Int32)) C dX11_goesRow_8 (by decide) ?_
    exact g_iret C R dX11_goesRow_9 (Option.some.inj h) rfl
noncomputable def f_X11_growsRow_42 (k17 : Int32 → Int32 → Mem → Option (Int32 × Mem)) (x1 : Int32) (x2 : Int32) (x3 : Int32) (x5 : Int32) (ps0 : Int32) (ps1 : Int32) (M : Mem) : Option (Int32 × Mem) :=
  (f_X11_numberOf x1 x5 M).bind fun r3 =>
  (f_X11_behindOf (M.1 50 0 33) r3.toInt32 M).bind fun r4 =>
  let M5 := sR M 50 0 (upd (M.1 50 0) 33 r4)
  k17 (ps0 + ps1) (x5 + (1 : Int32)) M5
noncomputable def f_X11_growsRow_17 (x1 : Int32) (x2 : Int32) (x3 : Int32) : Nat → Int32 → Int32 → Mem → Option (Int32 × Mem)
  | 0, _, _, _ => none
  | n + 1, x4, x5, M =>
  if x5 < x2 then
    if x3 < 0 then
      f_X11_growsRow_42 (fun x4_7 x5_7 M_7 =>
          f_X11_growsRow_17 x1 x2 x3 n x4_7 x5_7 M_7) x1 x2 x3 x5 x4 (0 : Int32) M
    else
      (f_X11_growsOn x3 (M.1 50 0 33) M).bind fun r2 =>
      f_X11_growsRow_42 (fun x4_6 x5_6 M_6 =>
          f_X11_growsRow_17 x1 x2 x3 n x4_6 x5_6 M_6) x1 x2 x3 x5 x4 r2 M
  else
    some (x4, M)
noncomputable def f_X11_growsRow (x1 : Int32) (x2 : Int32) (x3 : Int32) (M : Mem) : Option (Int32 × Mem) :=
  let M1 := sR M 50 0 (upd (M.1 50 0) 33 (M.1 55 0 8))
  f_X11_growsRow_17 x1 x2 x3 FU (0 : Int32) (0 : Int32) M1
set_option maxRecDepth 20000 in
set_option maxHeartbeats 2000000 in
theorem b_X11_growsRow_42 {E : wEnv} {Y : YT} (C : Cx E Y cX11_growsRow 6 RX11 1) {q : (Int32 × Mem)} (R : Rx E Y (some .int) (some (.int q.1)) q.2) {x1 : Int32} {x2 : Int32} {x3 : Int32} {x5 : Int32} {ps0 : Int32} {ps1 : Int32} {k17 : Int32 → Int32 → Mem → Option (Int32 × Mem)} (hk17 : ∀ {x4 : Int32} {x5 : Int32} {M : Mem} , k17 x4 x5 M = some q → G E Y 6 M 17 [(0, .ref (ad E 50 0)), (1, .int x1), (2, .int x2), (3, .int x3), (4, .int x4), (5, .int x5)] []) {M : Mem} (h : f_X11_growsRow_42 k17 x1 x2 x3 x5 ps0 ps1 M = some q) : G E Y 6 M 42 [(0, .ref (ad E 50 0)), (1, .int x1), (2, .int x2), (3, .int x3), (5, .int x5)] [.int ps1, .int ps0] := by
  unfold f_X11_growsRow_42 at h
  refine g_iadd C dX11_growsRow_42 ?_
  refine g_istore C dX11_growsRow_43 rfl ?_
  refine g_aload_n C dX11_growsRow_45 rfl rfl ?_
  refine g_aload_n C dX11_growsRow_46 rfl rfl ?_
  refine g_aload_n C dX11_growsRow_47 rfl rfl ?_
  refine get_X11_454 C dX11_growsRow_48 (by decide) ?_
  refine g_aload_n C dX11_growsRow_51 rfl rfl ?_
  refine g_iload_n C dX11_growsRow_52 rfl rfl ?_
  refine g_iload C dX11_growsRow_53 rfl ?_
  obtain ⟨r3, hr3, h⟩ := Option.bind_eq_some_iff.mp h
  refine call_X11_450 C dX11_growsRow_55 (by decide) (c_X11_numberOf E hr3) (by decide) rfl ?_
  refine g_l2i C dX11_growsRow_58 ?_
  obtain ⟨r4, hr4, h⟩ := Option.bind_eq_some_iff.mp h
  refine call_X11_349 C dX11_growsRow_59 (by decide) (c_X11_behindOf E hr4) (by decide) rfl ?_
  refine put_X11_454 C dX11_growsRow_62 (by decide) ?_
  refine g_iinc (w := (1 : Int32)) C dX11_growsRow_65 rfl (by decide) rfl ?_
  refine g_goto (tgt := 17) C dX11_growsRow_68 (by decide) ?_
  exact g_sub (hk17 h) ⟨rfl, rfl, rfl, rfl, rfl, rfl, trivial⟩
set_option maxRecDepth 20000 in
set_option maxHeartbeats 2000000 in
theorem b_X11_growsRow_17 {E : wEnv} {Y : YT} (C : Cx E Y cX11_growsRow 6 RX11 1) {q : (Int32 × Mem)} (R : Rx E Y (some .int) (some (.int q.1)) q.2) {x1 : Int32} {x2 : Int32} {x3 : Int32} (n : Nat) : ∀ {x4 : Int32} {x5 : Int32} {M : Mem} (_ : f_X11_growsRow_17 x1 x2 x3 n x4 x5 M = some q), G E Y 6 M 17 [(0, .ref (ad E 50 0)), (1, .int x1), (2, .int x2), (3, .int x3), (4, .int x4), (5, .int x5)] [] := by
  induction n with
  | zero =>
    intro x4 x5 M h
    cases (show none = some q from h)
  | succ n ih =>
    intro x4 x5 M h
    rw [f_X11_growsRow_17] at h
    refine g_iload C dX11_growsRow_17 rfl ?_
    refine g_iload_n C dX11_growsRow_19 rfl rfl ?_
    refine g_icmp_ge (tgt := 71) C dX11_growsRow_20 (by decide) h (fun h => ?_) (fun h => ?_)
    · refine g_iload C dX11_growsRow_71 rfl ?_
      exact g_iret C R dX11_growsRow_73 (fst_of h) (snd_of h)
    · refine g_iload C dX11_growsRow_23 rfl ?_
      refine g_iload_n C dX11_growsRow_25 rfl rfl ?_
      refine g_if_ge (tgt := 33) C dX11_growsRow_26 (by decide) h (fun h => ?_) (fun h => ?_)
      · refine g_aload_n C dX11_growsRow_33 rfl rfl ?_
        refine g_iload_n C dX11_growsRow_34 rfl rfl ?_
        refine g_aload_n C dX11_growsRow_35 rfl rfl ?_
        refine get_X11_454 C dX11_growsRow_36 (by decide) ?_
        obtain ⟨r2, hr2, h⟩ := Option.bind_eq_some_iff.mp h
        refine call_X11_355 C dX11_growsRow_39 (by decide) (c_X11_growsOn E hr2) (by decide) rfl ?_
        refine g_sub (b_X11_growsRow_42 C R ?_  h) ⟨rfl, rfl, rfl, rfl, rfl, trivial⟩
        · clear h
          intro x4_6 x5_6 M_6 h
          exact g_sub (ih h) ⟨rfl, rfl, rfl, rfl, rfl, rfl, trivial⟩
      · refine g_iconst (v := (0 : Int32)) C dX11_growsRow_29 (by decide) ?_
        refine g_goto (tgt := 42) C dX11_growsRow_30 (by decide) ?_
        refine g_sub (b_X11_growsRow_42 C R ?_  h) ⟨rfl, rfl, rfl, rfl, rfl, trivial⟩
        · clear h
          intro x4_7 x5_7 M_7 h
          exact g_sub (ih h) ⟨rfl, rfl, rfl, rfl, rfl, rfl, trivial⟩
set_option maxRecDepth 20000 in
set_option maxHeartbeats 2000000 in
theorem c_X11_growsRow (E : wEnv) {x1 : Int32} {x2 : Int32} {x3 : Int32} {M : Mem} {q : (Int32 × Mem)} (h : f_X11_growsRow x1 x2 x3 M = some q) : Mt E yX11_growsRow cX11_growsRow 6 (some .int) 1 [.ref (ad E 50 0), .int x1, .int x2, .int x3] M (some (.int q.1)) q.2 := by
  unfold f_X11_growsRow at h
  refine mt_intro (own := RX11) (lv0 := [(0, .ref (ad E 50 0)), (1, .int x1), (2, .int x2), (3, .int x3)]) (by decide) rfl rfl rfl (fun Y C R => ?_)
  refine g_iconst (v := (0 : Int32)) C dX11_growsRow_0 (by decide) ?_
  refine g_istore C dX11_growsRow_1 rfl ?_
  refine g_aload_n C dX11_growsRow_3 rfl rfl ?_
  refine g_aload_n C dX11_growsRow_4 rfl rfl ?_
  refine get_X11_35 C dX11_growsRow_5 (by decide) ?_
  refine g_bipush (v := (8 : Int32)) C dX11_growsRow_8 (by decide) ?_
  refine ld_55 (j := 8) C dX11_growsRow_10 (by decide) (by decide) rfl ?_
  refine put_X11_454 C dX11_growsRow_11 (by decide) ?_
  refine g_iconst (v := (0 : Int32)) C dX11_growsRow_14 (by decide) ?_
  refine g_istore C dX11_growsRow_15 rfl ?_
  exact g_sub (b_X11_growsRow_17 C R _ h) ⟨rfl, rfl, rfl, rfl, rfl, rfl, trivial⟩
noncomputable def f_X11_row (x1 : Int32) (x2 : Int32) (M : Mem) : Option (Int32 × Mem) :=
  let M1 := sR M 50 0 (upd (M.1 50 0) 1 (0 : Int32))
  (f_X11_goesRow x1 x2 M1).bind fun r2 =>
  let M3 := sR M1 50 0 (upd (M1.1 50 0) 0 r2)
  if 0 < (M3.1 50 0 0) then
    some ((-1 : Int32), M3)
  else
    (f_X11_growsRow x1 x2 (-1 : Int32) M3).bind fun q4 =>
    some ((q4.2.1 50 0 33), q4.2)
set_option maxRecDepth 20000 in
set_option maxHeartbeats 2000000 in
theorem c_X11_row (E : wEnv) {x1 : Int32} {x2 : Int32} {M : Mem} {q : (Int32 × Mem)} (h : f_X11_row x1 x2 M = some q) : Mt E yX11_row cX11_row 3 (some .int) 3 [.ref (ad E 50 0), .int x1, .int x2] M (some (.int q.1)) q.2 := by
  unfold f_X11_row at h
  refine mt_intro (own := RX11) (lv0 := [(0, .ref (ad E 50 0)), (1, .int x1), (2, .int x2)]) (by decide) rfl rfl rfl (fun Y C R => ?_)
  refine g_aload_n C dX11_row_0 rfl rfl ?_
  refine g_iconst (v := (0 : Int32)) C dX11_row_1 (by decide) ?_
  refine put_X11_71 C dX11_row_2 (by decide) ?_
  refine g_aload_n C dX11_row_5 rfl rfl ?_
  refine g_aload_n C dX11_row_6 rfl rfl ?_
  refine g_iload_n C dX11_row_7 rfl rfl ?_
  refine g_iload_n C dX11_row_8 rfl rfl ?_
  obtain ⟨r2, hr2, h⟩ := Option.bind_eq_some_iff.mp h
  refine call_X11_457 C dX11_row_9 (by decide) (c_X11_goesRow E hr2) (by decide) rfl ?_
  refine put_X11_74 C dX11_row_12 (by decide) ?_
  refine g_aload_n C dX11_row_15 rfl rfl ?_
  refine get_X11_74 C dX11_row_16 (by decide) ?_
  refine g_if_le (tgt := 24) C dX11_row_19 (by decide) h (fun h => ?_) (fun h => ?_)
  · refine g_aload_n C dX11_row_24 rfl rfl ?_
    refine g_iload_n C dX11_row_25 rfl rfl ?_
    refine g_iload_n C dX11_row_26 rfl rfl ?_
    refine g_iconst (v := (-1 : Int32)) C dX11_row_27 (by decide) ?_
    obtain ⟨q4, hr4, h⟩ := Option.bind_eq_some_iff.mp h
    refine call_X11_460 C dX11_row_28 (by decide) (c_X11_growsRow E hr4) (by decide) rfl ?_
    refine g_pop C dX11_row_31 rfl ?_
    refine g_aload_n C dX11_row_32 rfl rfl ?_
    refine get_X11_454 C dX11_row_33 (by decide) ?_
    exact g_iret C R dX11_row_36 (fst_of h) (snd_of h)
  · refine g_iconst (v := (-1 : Int32)) C dX11_row_22 (by decide) ?_
    exact g_iret C R dX11_row_23 (fst_of h) (snd_of h)
noncomputable def f_X11_rowGrows (x1 : Int32) (x2 : Int32) (x3 : Int32) (M : Mem) : Option (Int32 × Mem) :=
  let M1 := sR M 50 0 (upd (M.1 50 0) 1 (0 : Int32))
  (f_X11_goesRow x1 x2 M1).bind fun r2 =>
  let M3 := sR M1 50 0 (upd (M1.1 50 0) 0 r2)
  if 0 < (M3.1 50 0 0) then
    some ((-1 : Int32), M3)
  else
    (f_X11_isCropAt x3 M3).bind fun r4 =>
    if r4 = 0 then
      (f_X11_refuse (2 : Int32) M3).bind fun q5 =>
      some (q5.1, q5.2)
    else
      (f_X11_growsRow x1 x2 x3 M3).bind fun q6 =>
      some (q6.1, q6.2)
set_option maxRecDepth 20000 in
set_option maxHeartbeats 2000000 in
theorem c_X11_rowGrows (E : wEnv) {x1 : Int32} {x2 : Int32} {x3 : Int32} {M : Mem} {q : (Int32 × Mem)} (h : f_X11_rowGrows x1 x2 x3 M = some q) : Mt E yX11_rowGrows cX11_rowGrows 4 (some .int) 3 [.ref (ad E 50 0), .int x1, .int x2, .int x3] M (some (.int q.1)) q.2 := by
  unfold f_X11_rowGrows at h
  refine mt_intro (own := RX11) (lv0 := [(0, .ref (ad E 50 0)), (1, .int x1), (2, .int x2), (3, .int x3)]) (by decide) rfl rfl rfl (fun Y C R => ?_)
  refine g_aload_n C dX11_rowGrows_0 rfl rfl ?_
  refine g_iconst (v := (0 : Int32)) C dX11_rowGrows_1 (by decide) ?_
  refine put_X11_71 C dX11_rowGrows_2 (by decide) ?_
  refine g_aload_n C dX11_rowGrows_5 rfl rfl ?_
  refine g_aload_n C dX11_rowGrows_6 rfl rfl ?_
  refine g_iload_n C dX11_rowGrows_7 rfl rfl ?_
  refine g_iload_n C dX11_rowGrows_8 rfl rfl ?_
  obtain ⟨r2, hr2, h⟩ := Option.bind_eq_some_iff.mp h
  refine call_X11_457 C dX11_rowGrows_9 (by decide) (c_X11_goesRow E hr2) (by decide) rfl ?_
  refine put_X11_74 C dX11_rowGrows_12 (by decide) ?_
  refine g_aload_n C dX11_rowGrows_15 rfl rfl ?_
  refine get_X11_74 C dX11_rowGrows_16 (by decide) ?_
  refine g_if_le (tgt := 24) C dX11_rowGrows_19 (by decide) h (fun h => ?_) (fun h => ?_)
  · refine g_aload_n C dX11_rowGrows_24 rfl rfl ?_
    refine g_iload_n C dX11_rowGrows_25 rfl rfl ?_
    obtain ⟨r4, hr4, h⟩ := Option.bind_eq_some_iff.mp h
    refine call_X11_352 C dX11_rowGrows_26 (by decide) (c_X11_isCropAt E hr4) (by decide) rfl ?_
    refine g_if_eq (tgt := 42) C dX11_rowGrows_29 (by decide) h (fun h => ?_) (fun h => ?_)
    · refine g_aload_n C dX11_rowGrows_42 rfl rfl ?_
      refine g_iconst (v := (2 : Int32)) C dX11_rowGrows_43 (by decide) ?_
      obtain ⟨q5, hr5, h⟩ := Option.bind_eq_some_iff.mp h
      refine call_X11_340 C dX11_rowGrows_44 (by decide) (c_X11_refuse E hr5) (by decide) rfl ?_
      exact g_iret C R dX11_rowGrows_47 (fst_of h) (snd_of h)
    · refine g_aload_n C dX11_rowGrows_32 rfl rfl ?_
      refine g_iload_n C dX11_rowGrows_33 rfl rfl ?_
      refine g_iload_n C dX11_rowGrows_34 rfl rfl ?_
      refine g_iload_n C dX11_rowGrows_35 rfl rfl ?_
      obtain ⟨q6, hr6, h⟩ := Option.bind_eq_some_iff.mp h
      refine call_X11_460 C dX11_rowGrows_36 (by decide) (c_X11_growsRow E hr6) (by decide) rfl ?_
      refine g_goto (tgt := 47) C dX11_rowGrows_39 (by decide) ?_
      exact g_iret C R dX11_rowGrows_47 (fst_of h) (snd_of h)
  · refine g_iconst (v := (-1 : Int32)) C dX11_rowGrows_22 (by decide) ?_
    exact g_iret C R dX11_rowGrows_23 (fst_of h) (snd_of h)
noncomputable def f_X11_behindSet_4 (x1 : Int32) (M : Mem) : Nat → Int32 → Int32 → Option Int32
  | 0, _, _ => none
  | n + 1, x2, x3 =>
  if x3 < (M.1 55 0 2) then
    (f_X11_has x1 x3).bind fun r1 =>
    if r1 = 0 then
      f_X11_behindSet_4 x1 M n (x2 ||| (0 : Int32)) (x3 + (1 : Int32))
    else
      if inb ((158 : Int32) + x3) 2375 = true then
       if inb ((164 : Int32) + x3) 2375 = true then
        let x2_4 := (x2 ||| (((1 : Int32) <<< ((M.1 55 0 (((158 : Int32) + x3).toNatClampNeg)) &&& 31)) ||| ((1 : Int32) <<< ((M.1 55 0 (((164 : Int32) + x3).toNatClampNeg)) &&& 31))))
        f_X11_behindSet_4 x1 M n x2_4 (x3 + (1 : Int32))
       else none
      else none
  else
    some x2
noncomputable def f_X11_behindSet (x1 : Int32) (M : Mem) : Option Int32 :=
  f_X11_behindSet_4 x1 M FU (0 : Int32) (0 : Int32)
set_option maxRecDepth 20000 in
set_option maxHeartbeats 2000000 in
theorem b_X11_behindSet_4 {E : wEnv} {Y : YT} (C : Cx E Y cX11_behindSet 4 RX11 1) {q : Int32} {M : Mem} (R : Rx E Y (some .int) (some (.int q)) M) {x1 : Int32} (n : Nat) : ∀ {x2 : Int32} {x3 : Int32} (_ : f_X11_behindSet_4 x1 M n x2 x3 = some q), G E Y 4 M 4 [(0, .ref (ad E 50 0)), (1, .int x1), (2, .int x2), (3, .int x3)] [] := by
  induction n with
  | zero =>
    intro x2 x3 h
    cases (show none = some q from h)
  | succ n ih =>
    intro x2 x3 h
    rw [f_X11_behindSet_4] at h
    refine g_iload_n C dX11_behindSet_4 rfl rfl ?_
    refine g_aload_n C dX11_behindSet_5 rfl rfl ?_
    refine get_X11_35 C dX11_behindSet_6 (by decide) ?_
    refine g_iconst (v := (2 : Int32)) C dX11_behindSet_9 (by decide) ?_
    refine ld_55 (j := 2) C dX11_behindSet_10 (by decide) (by decide) rfl ?_
    refine g_icmp_ge (tgt := 60) C dX11_behindSet_11 (by decide) h (fun h => ?_) (fun h => ?_)
    · refine g_iload_n C dX11_behindSet_60 rfl rfl ?_
      exact g_iret C R dX11_behindSet_61 (Option.some.inj h) rfl
    · refine g_iload_n C dX11_behindSet_14 rfl rfl ?_
      refine g_iload_n C dX11_behindSet_15 rfl rfl ?_
      refine g_iload_n C dX11_behindSet_16 rfl rfl ?_
      obtain ⟨r1, hr1, h⟩ := Option.bind_eq_some_iff.mp h
      refine call_X11_110 C dX11_behindSet_17 (c_X11_has E hr1) (by decide) rfl ?_
      refine g_if_eq (tgt := 51) C dX11_behindSet_20 (by decide) h (fun h => ?_) (fun h => ?_)
      · refine g_iconst (v := (0 : Int32)) C dX11_behindSet_51 (by decide) ?_
        refine g_ior C dX11_behindSet_52 ?_
        refine g_istore_n C dX11_behindSet_53 rfl rfl ?_
        refine g_iinc (w := (1 : Int32)) C dX11_behindSet_54 rfl (by decide) rfl ?_
        refine g_goto (tgt := 4) C dX11_behindSet_57 (by decide) ?_
        exact g_sub (ih h) ⟨rfl, rfl, rfl, rfl, trivial⟩
      · refine g_iconst (v := (1 : Int32)) C dX11_behindSet_23 (by decide) ?_
        refine g_aload_n C dX11_behindSet_24 rfl rfl ?_
        refine get_X11_35 C dX11_behindSet_25 (by decide) ?_
        refine g_sipush (v := (158 : Int32)) C dX11_behindSet_28 (by decide) ?_
        refine g_iload_n C dX11_behindSet_31 rfl rfl ?_
        refine g_iadd C dX11_behindSet_32 ?_
        obtain ⟨hb2, h⟩ := of_ite h
        refine ld_55 (j := _) C dX11_behindSet_33 (by decide) hb2 rfl ?_
        refine g_ishl C dX11_behindSet_34 ?_
        refine g_iconst (v := (1 : Int32)) C dX11_behindSet_35 (by decide) ?_
        refine g_aload_n C dX11_behindSet_36 rfl rfl ?_
        refine get_X11_35 C dX11_behindSet_37 (by decide) ?_
        refine g_sipush (v := (164 : Int32)) C dX11_behindSet_40 (by decide) ?_
        refine g_iload_n C dX11_behindSet_43 rfl rfl ?_
        refine g_iadd C dX11_behindSet_44 ?_
        obtain ⟨hb3, h⟩ := of_ite h
        refine ld_55 (j := _) C dX11_behindSet_45 (by decide) hb3 rfl ?_
        refine g_ishl C dX11_behindSet_46 ?_
        refine g_ior C dX11_behindSet_47 ?_
        refine g_goto (tgt := 52) C dX11_behindSet_48 (by decide) ?_
        refine g_ior C dX11_behindSet_52 ?_
        refine g_istore_n C dX11_behindSet_53 rfl rfl ?_
        refine g_iinc (w := (1 : Int32)) C dX11_behindSet_54 rfl (by decide) rfl ?_
        refine g_goto (tgt := 4) C dX11_behindSet_57 (by decide) ?_
        exact g_sub (ih h) ⟨rfl, rfl, rfl, rfl, trivial⟩
set_option maxRecDepth 20000 in
set_option maxHeartbeats 2000000 in
theorem c_X11_behindSet (E : wEnv) {x1 : Int32} {M : Mem} {q : Int32} (h : f_X11_behindSet x1 M = some q) : Mt E yX11_behindSet cX11_behindSet 4 (some .int) 1 [.ref (ad E 50 0), .int x1] M (some (.int q)) M := by
  unfold f_X11_behindSet at h
  refine mt_intro (own := RX11) (lv0 := [(0, .ref (ad E 50 0)), (1, .int x1)]) (by decide) rfl rfl rfl (fun Y C R => ?_)
  refine g_iconst (v := (0 : Int32)) C dX11_behindSet_0 (by decide) ?_
  refine g_istore_n C dX11_behindSet_1 rfl rfl ?_
  refine g_iconst (v := (0 : Int32)) C dX11_behindSet_2 (by decide) ?_
  refine g_istore_n C dX11_behindSet_3 rfl rfl ?_
  exact g_sub (b_X11_behindSet_4 C R _ h) ⟨rfl, rfl, rfl, rfl, trivial⟩
noncomputable def f_X11_way_36 (x1 : Int32) (M : Mem) : Nat → Int32 → Int32 → Option (Int32 × Mem)
  | 0, _, _ => none
  | n + 1, x2, x3 =>
  if (6 : Int32) < x3 then
    (f_X11_refuse (8 : Int32) M).bind fun q5 =>
    some (q5.1, q5.2)
  else
    (f_X11_has x2 x1).bind fun r6 =>
    if r6 = 0 then
      (f_X11_behindSet x2 M).bind fun r7 =>
      f_X11_way_36 x1 M n (x2 ||| r7) (x3 + (1 : Int32))
    else
      some (x3, M)
noncomputable def f_X11_way (x1 : Int32) (M : Mem) : Option (Int32 × Mem) :=
  let M1 := sR M 50 0 (upd (M.1 50 0) 1 (0 : Int32))
  let M2 := sR M1 50 0 (upd (M1.1 50 0) 0 (0 : Int32))
  (f_X11_isWeatherAt x1 M2).bind fun r3 =>
  if r3 = 0 then
    (f_X11_refuse (2 : Int32) M2).bind fun q8 =>
    some (q8.1, q8.2)
  else
    let x2_4 := ((1 : Int32) <<< ((M2.1 55 0 8) &&& 31))
    f_X11_way_36 x1 M2 FU x2_4 (0 : Int32)
set_option maxRecDepth 20000 in
set_option maxHeartbeats 2000000 in
theorem b_X11_way_36 {E : wEnv} {Y : YT} (C : Cx E Y cX11_way 4 RX11 2) {q : (Int32 × Mem)} {M : Mem} (R : Rx E Y (some .int) (some (.int q.1)) q.2) {x1 : Int32} (n : Nat) : ∀ {x2 : Int32} {x3 : Int32} (_ : f_X11_way_36 x1 M n x2 x3 = some q), G E Y 4 M 36 [(0, .ref (ad E 50 0)), (1, .int x1), (2, .int x2), (3, .int x3)] [] := by
  induction n with
  | zero =>
    intro x2 x3 h
    cases (show none = some q from h)
  | succ n ih =>
    intro x2 x3 h
    rw [f_X11_way_36] at h
    refine g_iload_n C dX11_way_36 rfl rfl ?_
    refine g_bipush (v := (6 : Int32)) C dX11_way_37 (by decide) ?_
    refine g_icmp_gt (tgt := 66) C dX11_way_39 (by decide) h (fun h => ?_) (fun h => ?_)
    · refine g_aload_n C dX11_way_66 rfl rfl ?_
      refine g_bipush (v := (8 : Int32)) C dX11_way_67 (by decide) ?_
      obtain ⟨q5, hr5, h⟩ := Option.bind_eq_some_iff.mp h
      refine call_X11_340 C dX11_way_69 (by decide) (c_X11_refuse E hr5) (by decide) rfl ?_
      exact g_iret C R dX11_way_72 (fst_of h) (snd_of h)
    · refine g_iload_n C dX11_way_42 rfl rfl ?_
      refine g_iload_n C dX11_way_43 rfl rfl ?_
      obtain ⟨r6, hr6, h⟩ := Option.bind_eq_some_iff.mp h
      refine call_X11_110 C dX11_way_44 (c_X11_has E hr6) (by decide) rfl ?_
      refine g_if_eq (tgt := 52) C dX11_way_47 (by decide) h (fun h => ?_) (fun h => ?_)
      · refine g_iload_n C dX11_way_52 rfl rfl ?_
        refine g_aload_n C dX11_way_53 rfl rfl ?_
        refine g_iload_n C dX11_way_54 rfl rfl ?_
        obtain ⟨r7, hr7, h⟩ := Option.bind_eq_some_iff.mp h
        refine call_X11_463 C dX11_way_55 (by decide) (c_X11_behindSet E hr7) (by decide) rfl ?_
        refine g_ior C dX11_way_58 ?_
        refine g_istore_n C dX11_way_59 rfl rfl ?_
        refine g_iinc (w := (1 : Int32)) C dX11_way_60 rfl (by decide) rfl ?_
        refine g_goto (tgt := 36) C dX11_way_63 (by decide) ?_
        exact g_sub (ih h) ⟨rfl, rfl, rfl, rfl, trivial⟩
      · refine g_iload_n C dX11_way_50 rfl rfl ?_
        exact g_iret C R dX11_way_51 (fst_of h) (snd_of h)
set_option maxRecDepth 20000 in
set_option maxHeartbeats 2000000 in
theorem c_X11_way (E : wEnv) {x1 : Int32} {M : Mem} {q : (Int32 × Mem)} (h : f_X11_way x1 M = some q) : Mt E yX11_way cX11_way 4 (some .int) 2 [.ref (ad E 50 0), .int x1] M (some (.int q.1)) q.2 := by
  unfold f_X11_way at h
  refine mt_intro (own := RX11) (lv0 := [(0, .ref (ad E 50 0)), (1, .int x1)]) (by decide) rfl rfl rfl (fun Y C R => ?_)
  refine g_aload_n C dX11_way_0 rfl rfl ?_
  refine g_iconst (v := (0 : Int32)) C dX11_way_1 (by decide) ?_
  refine put_X11_71 C dX11_way_2 (by decide) ?_
  refine g_aload_n C dX11_way_5 rfl rfl ?_
  refine g_iconst (v := (0 : Int32)) C dX11_way_6 (by decide) ?_
  refine put_X11_74 C dX11_way_7 (by decide) ?_
  refine g_aload_n C dX11_way_10 rfl rfl ?_
  refine g_iload_n C dX11_way_11 rfl rfl ?_
  obtain ⟨r3, hr3, h⟩ := Option.bind_eq_some_iff.mp h
  refine call_X11_346 C dX11_way_12 (by decide) (c_X11_isWeatherAt E hr3) (by decide) rfl ?_
  refine g_if_ne (tgt := 24) C dX11_way_15 (by decide) h (fun h => ?_) (fun h => ?_)
  · refine g_iconst (v := (1 : Int32)) C dX11_way_24 (by decide) ?_
    refine g_aload_n C dX11_way_25 rfl rfl ?_
    refine get_X11_35 C dX11_way_26 (by decide) ?_
    refine g_bipush (v := (8 : Int32)) C dX11_way_29 (by decide) ?_
    refine ld_55 (j := 8) C dX11_way_31 (by decide) (by decide) rfl ?_
    refine g_ishl C dX11_way_32 ?_
    refine g_istore_n C dX11_way_33 rfl rfl ?_
    refine g_iconst (v := (0 : Int32)) C dX11_way_34 (by decide) ?_
    refine g_istore_n C dX11_way_35 rfl rfl ?_
    exact g_sub (b_X11_way_36 C R _ h) ⟨rfl, rfl, rfl, rfl, trivial⟩
  · refine g_aload_n C dX11_way_18 rfl rfl ?_
    refine g_iconst (v := (2 : Int32)) C dX11_way_19 (by decide) ?_
    obtain ⟨q8, hr8, h⟩ := Option.bind_eq_some_iff.mp h
    refine call_X11_340 C dX11_way_20 (by decide) (c_X11_refuse E hr8) (by decide) rfl ?_
    exact g_iret C R dX11_way_23 (fst_of h) (snd_of h)
noncomputable def f_X11_reach_36 (M : Mem) : Nat → Int32 → Int32 → Option (Int32 × Mem)
  | 0, _, _ => none
  | n + 1, x1, x2 =>
  if x2 < (6 : Int32) then
    (f_X11_behindSet x1 M).bind fun r4 =>
    f_X11_reach_36 M n (x1 ||| r4) (x2 + (1 : Int32))
  else
    some (x1, M)
noncomputable def f_X11_reach (M : Mem) : Option (Int32 × Mem) :=
  let M1 := sR M 50 0 (upd (M.1 50 0) 1 (0 : Int32))
  let M2 := sR M1 50 0 (upd (M1.1 50 0) 0 (0 : Int32))
  if (M2.1 55 0 8) < 0 then
    f_X11_reach_36 M2 FU (0 : Int32) (0 : Int32)
  else
    let x1_3 := ((1 : Int32) <<< ((M2.1 55 0 8) &&& 31))
    f_X11_reach_36 M2 FU x1_3 (0 : Int32)
set_option maxRecDepth 20000 in
set_option maxHeartbeats 2000000 in
theorem b_X11_reach_36 {E : wEnv} {Y : YT} (C : Cx E Y cX11_reach 3 RX11 2) {q : (Int32 × Mem)} {M : Mem} (R : Rx E Y (some .int) (some (.int q.1)) q.2) (n : Nat) : ∀ {x1 : Int32} {x2 : Int32} (_ : f_X11_reach_36 M n x1 x2 = some q), G E Y 3 M 36 [(0, .ref (ad E 50 0)), (1, .int x1), (2, .int x2)] [] := by
  induction n with
  | zero =>
    intro x1 x2 h
    cases (show none = some q from h)
  | succ n ih =>
    intro x1 x2 h
    rw [f_X11_reach_36] at h
    refine g_iload_n C dX11_reach_36 rfl rfl ?_
    refine g_bipush (v := (6 : Int32)) C dX11_reach_37 (by decide) ?_
    refine g_icmp_ge (tgt := 56) C dX11_reach_39 (by decide) h (fun h => ?_) (fun h => ?_)
    · refine g_iload_n C dX11_reach_56 rfl rfl ?_
      exact g_iret C R dX11_reach_57 (fst_of h) (snd_of h)
    · refine g_iload_n C dX11_reach_42 rfl rfl ?_
      refine g_aload_n C dX11_reach_43 rfl rfl ?_
      refine g_iload_n C dX11_reach_44 rfl rfl ?_
      obtain ⟨r4, hr4, h⟩ := Option.bind_eq_some_iff.mp h
      refine call_X11_463 C dX11_reach_45 (by decide) (c_X11_behindSet E hr4) (by decide) rfl ?_
      refine g_ior C dX11_reach_48 ?_
      refine g_istore_n C dX11_reach_49 rfl rfl ?_
      refine g_iinc (w := (1 : Int32)) C dX11_reach_50 rfl (by decide) rfl ?_
      refine g_goto (tgt := 36) C dX11_reach_53 (by decide) ?_
      exact g_sub (ih h) ⟨rfl, rfl, rfl, trivial⟩
set_option maxRecDepth 20000 in
set_option maxHeartbeats 2000000 in
theorem c_X11_reach (E : wEnv) {M : Mem} {q : (Int32 × Mem)} (h : f_X11_reach M = some q) : Mt E yX11_reach cX11_reach 3 (some .int) 2 [.ref (ad E 50 0)] M (some (.int q.1)) q.2 := by
  unfold f_X11_reach at h
  refine mt_intro (own := RX11) (lv0 := [(0, .ref (ad E 50 0))]) (by decide) rfl rfl rfl (fun Y C R => ?_)
  refine g_aload_n C dX11_reach_0 rfl rfl ?_
  refine g_iconst (v := (0 : Int32)) C dX11_reach_1 (by decide) ?_
  refine put_X11_71 C dX11_reach_2 (by decide) ?_
  refine g_aload_n C dX11_reach_5 rfl rfl ?_
  refine g_iconst (v := (0 : Int32)) C dX11_reach_6 (by decide) ?_
  refine put_X11_74 C dX11_reach_7 (by decide) ?_
  refine g_aload_n C dX11_reach_10 rfl rfl ?_
  refine get_X11_35 C dX11_reach_11 (by decide) ?_
  refine g_bipush (v := (8 : Int32)) C dX11_reach_14 (by decide) ?_
  refine ld_55 (j := 8) C dX11_reach_16 (by decide) (by decide) rfl ?_
  refine g_if_ge (tgt := 24) C dX11_reach_17 (by decide) h (fun h => ?_) (fun h => ?_)
  · refine g_iconst (v := (1 : Int32)) C dX11_reach_24 (by decide) ?_
    refine g_aload_n C dX11_reach_25 rfl rfl ?_
    refine get_X11_35 C dX11_reach_26 (by decide) ?_
    refine g_bipush (v := (8 : Int32)) C dX11_reach_29 (by decide) ?_
    refine ld_55 (j := 8) C dX11_reach_31 (by decide) (by decide) rfl ?_
    refine g_ishl C dX11_reach_32 ?_
    refine g_istore_n C dX11_reach_33 rfl rfl ?_
    refine g_iconst (v := (0 : Int32)) C dX11_reach_34 (by decide) ?_
    refine g_istore_n C dX11_reach_35 rfl rfl ?_
    exact g_sub (b_X11_reach_36 C R _ h) ⟨rfl, rfl, rfl, trivial⟩
  · refine g_iconst (v := (0 : Int32)) C dX11_reach_20 (by decide) ?_
    refine g_goto (tgt := 33) C dX11_reach_21 (by decide) ?_
    refine g_istore_n C dX11_reach_33 rfl rfl ?_
    refine g_iconst (v := (0 : Int32)) C dX11_reach_34 (by decide) ?_
    refine g_istore_n C dX11_reach_35 rfl rfl ?_
    exact g_sub (b_X11_reach_36 C R _ h) ⟨rfl, rfl, rfl, trivial⟩
noncomputable def f_X11_harvests_61 (k100 : Int32 → Option Mem) (x1 : Int32) (x2 : Int32) (x3 : Int32) (x4 : Int32) (M : Mem) : Nat → Int32 → Int32 → Option Mem
  | 0, _, _ => none
  | n + 1, x5, x6 =>
  if x6 < (2 : Int32) then
    (f_X11_behindOf x4 x6 M).bind fun r3 =>
    if inb (((6 : Int32) * (x3 - (1 : Int32))) + r3) 126 = true then
     let x5_5 := (jmax x5 (M.1 62 0 ((((6 : Int32) * (x3 - (1 : Int32))) + r3).toNatClampNeg)))
     f_X11_harvests_61 k100 x1 x2 x3 x4 M n x5_5 (x6 + (2 : Int32))
    else none
  else
    k100 x5
noncomputable def f_X11_harvests_31 (k128 : Mem → Option Mem) (x1 : Int32) (x2 : Int32) (x3 : Int32) : Nat → Int32 → Mem → Option Mem
  | 0, _, _ => none
  | n + 1, x4, M =>
  if x4 < (M.1 55 0 2) then
    if inb (((6 : Int32) * (x3 - (1 : Int32))) + x4) 126 = true then
     let x5_2 := (M.1 62 0 ((((6 : Int32) * (x3 - (1 : Int32))) + x4).toNatClampNeg))
     f_X11_harvests_61 (fun x5_6 =>
         (f_X11_growsOn x1 x4 M).bind fun r7 =>
         if inb (((6 : Int32) * x3) + x4) 126 = true then
          let M9 := sR M 62 0 (upd (M.1 62 0) ((((6 : Int32) * x3) + x4).toNatClampNeg) (x5_6 + r7))
          f_X11_harvests_31 k128 x1 x2 x3 n (x4 + (1 : Int32)) M9
         else none) x1 x2 x3 x4 M FU x5_2 (-1 : Int32)
    else none
  else
    k128 M
noncomputable def f_X11_harvests_23 (x1 : Int32) (x2 : Int32) : Nat → Int32 → Mem → Option Mem
  | 0, _, _ => none
  | n + 1, x3, M =>
  if x2 < x3 then
    some M
  else
    f_X11_harvests_31 (fun M_10 =>
        f_X11_harvests_23 x1 x2 n (x3 + (1 : Int32)) M_10) x1 x2 x3 FU (0 : Int32) M
noncomputable def f_X11_harvests_2 (x1 : Int32) (x2 : Int32) : Nat → Int32 → Mem → Option Mem
  | 0, _, _ => none
  | n + 1, x3, M =>
  if x3 < (6 : Int32) then
    if inb x3 126 = true then
     let M12 := sR M 62 0 (upd (M.1 62 0) x3.toNatClampNeg (0 : Int32))
     f_X11_harvests_2 x1 x2 n (x3 + (1 : Int32)) M12
    else none
  else
    f_X11_harvests_23 x1 x2 FU (1 : Int32) M
noncomputable def f_X11_harvests (x1 : Int32) (x2 : Int32) (M : Mem) : Option Mem :=
  f_X11_harvests_2 x1 x2 FU (0 : Int32) M
set_option maxRecDepth 20000 in
set_option maxHeartbeats 2000000 in
theorem b_X11_harvests_61 {E : wEnv} {Y : YT} (C : Cx E Y cX11_harvests 7 RX11 1) {q : Mem} {M : Mem} (R : Rx E Y none none q) {x1 : Int32} {x2 : Int32} {x3 : Int32} {x4 : Int32} {k100 : Int32 → Option Mem} (hk100 : ∀ {x5 : Int32} , k100 x5 = some q → G E Y 7 M 100 [(0, .ref (ad E 50 0)), (1, .int x1), (2, .int x2), (3, .int x3), (4, .int x4), (5, .int x5)] []) (n : Nat) : ∀ {x5 : Int32} {x6 : Int32} (_ : f_X11_harvests_61 k100 x1 x2 x3 x4 M n x5 x6 = some q), G E Y 7 M 61 [(0, .ref (ad E 50 0)), (1, .int x1), (2, .int x2), (3, .int x3), (4, .int x4), (5, .int x5), (6, .int x6)] [] := by
  induction n with
  | zero =>
    intro x5 x6 h
    cases (show none = some q from h)
  | succ n ih =>
    intro x5 x6 h
    rw [f_X11_harvests_61] at h
    refine g_iload C dX11_harvests_61 rfl ?_
    refine g_iconst (v := (2 : Int32)) C dX11_harvests_63 (by decide) ?_
    refine g_icmp_ge (tgt := 100) C dX11_harvests_64 (by decide) h (fun h => ?_) (fun h => ?_)
    · exact g_sub (hk100 h) ⟨rfl, rfl, rfl, rfl, rfl, rfl, trivial⟩
    · refine g_iload C dX11_harvests_67 rfl ?_
      refine g_aload_n C dX11_harvests_69 rfl rfl ?_
      refine get_X11_62 C dX11_harvests_70 (by decide) ?_
      refine g_bipush (v := (6 : Int32)) C dX11_harvests_73 (by decide) ?_
      refine g_iload_n C dX11_harvests_75 rfl rfl ?_
      refine g_iconst (v := (1 : Int32)) C dX11_harvests_76 (by decide) ?_
      refine g_isub C dX11_harvests_77 ?_
      refine g_imul C dX11_harvests_78 ?_
      refine g_aload_n C dX11_harvests_79 rfl rfl ?_
      refine g_iload C dX11_harvests_80 rfl ?_
      refine g_iload C dX11_harvests_82 rfl ?_
      obtain ⟨r3, hr3, h⟩ := Option.bind_eq_some_iff.mp h
      refine call_X11_349 C dX11_harvests_84 (by decide) (c_X11_behindOf E hr3) (by decide) rfl ?_
      refine g_iadd C dX11_harvests_87 ?_
      obtain ⟨hb4, h⟩ := of_ite h
      refine ld_62 (j := _) C dX11_harvests_88 (by decide) hb4 rfl ?_
      refine call_X11_264 C dX11_harvests_89 (by decide) rfl ?_
      refine g_istore C dX11_harvests_92 rfl ?_
      refine g_iinc (w := (2 : Int32)) C dX11_harvests_94 rfl (by decide) rfl ?_
      refine g_goto (tgt := 61) C dX11_harvests_97 (by decide) ?_
      exact g_sub (ih h) ⟨rfl, rfl, rfl, rfl, rfl, rfl, rfl, trivial⟩
set_option maxRecDepth 20000 in
set_option maxHeartbeats 2000000 in
theorem b_X11_harvests_31 {E : wEnv} {Y : YT} (C : Cx E Y cX11_harvests 7 RX11 1) {q : Mem} (R : Rx E Y none none q) {x1 : Int32} {x2 : Int32} {x3 : Int32} {k128 : Mem → Option Mem} (hk128 : ∀ {M : Mem} , k128 M = some q → G E Y 7 M 128 [(0, .ref (ad E 50 0)), (1, .int x1), (2, .int x2), (3, .int x3)] []) (n : Nat) : ∀ {x4 : Int32} {M : Mem} (_ : f_X11_harvests_31 k128 x1 x2 x3 n x4 M = some q), G E Y 7 M 31 [(0, .ref (ad E 50 0)), (1, .int x1), (2, .int x2), (3, .int x3), (4, .int x4)] [] := by
  induction n with
  | zero =>
    intro x4 M h
    cases (show none = some q from h)
  | succ n ih =>
    intro x4 M h
    rw [f_X11_harvests_31] at h
    refine g_iload C dX11_harvests_31 rfl ?_
    refine g_aload_n C dX11_harvests_33 rfl rfl ?_
    refine get_X11_35 C dX11_harvests_34 (by decide) ?_
    refine g_iconst (v := (2 : Int32)) C dX11_harvests_37 (by decide) ?_
    refine ld_55 (j := 2) C dX11_harvests_38 (by decide) (by decide) rfl ?_
    refine g_icmp_ge (tgt := 128) C dX11_harvests_39 (by decide) h (fun h => ?_) (fun h => ?_)
    · exact g_sub (hk128 h) ⟨rfl, rfl, rfl, rfl, trivial⟩
    · refine g_aload_n C dX11_harvests_42 rfl rfl ?_
      refine get_X11_62 C dX11_harvests_43 (by decide) ?_
      refine g_bipush (v := (6 : Int32)) C dX11_harvests_46 (by decide) ?_
      refine g_iload_n C dX11_harvests_48 rfl rfl ?_
      refine g_iconst (v := (1 : Int32)) C dX11_harvests_49 (by decide) ?_
      refine g_isub C dX11_harvests_50 ?_
      refine g_imul C dX11_harvests_51 ?_
      refine g_iload C dX11_harvests_52 rfl ?_
      refine g_iadd C dX11_harvests_54 ?_
      obtain ⟨hb1, h⟩ := of_ite h
      refine ld_62 (j := _) C dX11_harvests_55 (by decide) hb1 rfl ?_
      refine g_istore C dX11_harvests_56 rfl ?_
      refine g_iconst (v := (-1 : Int32)) C dX11_harvests_58 (by decide) ?_
      refine g_istore C dX11_harvests_59 rfl ?_
      refine g_sub (b_X11_harvests_61 C R ?_ _ h) ⟨rfl, rfl, rfl, rfl, rfl, rfl, rfl, trivial⟩
      · clear h
        intro x5_6 h
        refine g_aload_n C dX11_harvests_100 rfl rfl ?_
        refine get_X11_62 C dX11_harvests_101 (by decide) ?_
        refine g_bipush (v := (6 : Int32)) C dX11_harvests_104 (by decide) ?_
        refine g_iload_n C dX11_harvests_106 rfl rfl ?_
        refine g_imul C dX11_harvests_107 ?_
        refine g_iload C dX11_harvests_108 rfl ?_
        refine g_iadd C dX11_harvests_110 ?_
        refine g_iload C dX11_harvests_111 rfl ?_
        refine g_aload_n C dX11_harvests_113 rfl rfl ?_
        refine g_iload_n C dX11_harvests_114 rfl rfl ?_
        refine g_iload C dX11_harvests_115 rfl ?_
        obtain ⟨r7, hr7, h⟩ := Option.bind_eq_some_iff.mp h
        refine call_X11_355 C dX11_harvests_117 (by decide) (c_X11_growsOn E hr7) (by decide) rfl ?_
        refine g_iadd C dX11_harvests_120 ?_
        obtain ⟨hb8, h⟩ := of_ite h
        refine st_62 (j := _) C dX11_harvests_121 (by decide) hb8 rfl ?_
        refine g_iinc (w := (1 : Int32)) C dX11_harvests_122 rfl (by decide) rfl ?_
        refine g_goto (tgt := 31) C dX11_harvests_125 (by decide) ?_
        exact g_sub (ih h) ⟨rfl, rfl, rfl, rfl, rfl, trivial⟩
set_option maxRecDepth 20000 in
set_option maxHeartbeats 2000000 in
theorem b_X11_harvests_23 {E : wEnv} {Y : YT} (C : Cx E Y cX11_harvests 7 RX11 1) {q : Mem} (R : Rx E Y none none q) {x1 : Int32} {x2 : Int32} (n : Nat) : ∀ {x3 : Int32} {M : Mem} (_ : f_X11_harvests_23 x1 x2 n x3 M = some q), G E Y 7 M 23 [(0, .ref (ad E 50 0)), (1, .int x1), (2, .int x2), (3, .int x3)] [] := by
  induction n with
  | zero =>
    intro x3 M h
    cases (show none = some q from h)
  | succ n ih =>
    intro x3 M h
    rw [f_X11_harvests_23] at h
    refine g_iload_n C dX11_harvests_23 rfl rfl ?_
    refine g_iload_n C dX11_harvests_24 rfl rfl ?_
    refine g_icmp_gt (tgt := 134) C dX11_harvests_25 (by decide) h (fun h => ?_) (fun h => ?_)
    · exact g_vret C R dX11_harvests_134 (Option.some.inj h)
    · refine g_iconst (v := (0 : Int32)) C dX11_harvests_28 (by decide) ?_
      refine g_istore C dX11_harvests_29 rfl ?_
      refine g_sub (b_X11_harvests_31 C R ?_ _ h) ⟨rfl, rfl, rfl, rfl, rfl, trivial⟩
      · clear h
        intro M_10 h
        refine g_iinc (w := (1 : Int32)) C dX11_harvests_128 rfl (by decide) rfl ?_
        refine g_goto (tgt := 23) C dX11_harvests_131 (by decide) ?_
        exact g_sub (ih h) ⟨rfl, rfl, rfl, rfl, trivial⟩
set_option maxRecDepth 20000 in
set_option maxHeartbeats 2000000 in
theorem b_X11_harvests_2 {E : wEnv} {Y : YT} (C : Cx E Y cX11_harvests 7 RX11 1) {q : Mem} (R : Rx E Y none none q) {x1 : Int32} {x2 : Int32} (n : Nat) : ∀ {x3 : Int32} {M : Mem} (_ : f_X11_harvests_2 x1 x2 n x3 M = some q), G E Y 7 M 2 [(0, .ref (ad E 50 0)), (1, .int x1), (2, .int x2), (3, .int x3)] [] := by
  induction n with
  | zero =>
    intro x3 M h
    cases (show none = some q from h)
  | succ n ih =>
    intro x3 M h
    rw [f_X11_harvests_2] at h
    refine g_iload_n C dX11_harvests_2 rfl rfl ?_
    refine g_bipush (v := (6 : Int32)) C dX11_harvests_3 (by decide) ?_
    refine g_icmp_ge (tgt := 21) C dX11_harvests_5 (by decide) h (fun h => ?_) (fun h => ?_)
    · refine g_iconst (v := (1 : Int32)) C dX11_harvests_21 (by decide) ?_
      refine g_istore_n C dX11_harvests_22 rfl rfl ?_
      exact g_sub (b_X11_harvests_23 C R _ h) ⟨rfl, rfl, rfl, rfl, trivial⟩
    · refine g_aload_n C dX11_harvests_8 rfl rfl ?_
      refine get_X11_62 C dX11_harvests_9 (by decide) ?_
      refine g_iload_n C dX11_harvests_12 rfl rfl ?_
      refine g_iconst (v := (0 : Int32)) C dX11_harvests_13 (by decide) ?_
      obtain ⟨hb11, h⟩ := of_ite h
      refine st_62 (j := _) C dX11_harvests_14 (by decide) hb11 rfl ?_
      refine g_iinc (w := (1 : Int32)) C dX11_harvests_15 rfl (by decide) rfl ?_
      refine g_goto (tgt := 2) C dX11_harvests_18 (by decide) ?_
      exact g_sub (ih h) ⟨rfl, rfl, rfl, rfl, trivial⟩
set_option maxRecDepth 20000 in
set_option maxHeartbeats 2000000 in
theorem c_X11_harvests (E : wEnv) {x1 : Int32} {x2 : Int32} {M : Mem} {q : Mem} (h : f_X11_harvests x1 x2 M = some q) : Mt E yX11_harvests cX11_harvests 7 none 1 [.ref (ad E 50 0), .int x1, .int x2] M none q := by
  unfold f_X11_harvests at h
  refine mt_intro (own := RX11) (lv0 := [(0, .ref (ad E 50 0)), (1, .int x1), (2, .int x2)]) (by decide) rfl rfl rfl (fun Y C R => ?_)
  refine g_iconst (v := (0 : Int32)) C dX11_harvests_0 (by decide) ?_
  refine g_istore_n C dX11_harvests_1 rfl rfl ?_
  exact g_sub (b_X11_harvests_2 C R _ h) ⟨rfl, rfl, rfl, rfl, trivial⟩
noncomputable def f_X11_whyNoHarvest (x1 : Int32) (x2 : Int32) (M : Mem) : Option Int32 :=
  (f_X11_isCropAt x1 M).bind fun r1 =>
  if r1 = 0 then
    some (2 : Int32)
  else
    (f_X11_isIn x2.toInt64 (1 : Int64) (20 : Int64)).bind fun r2 =>
    if r2 = 0 then
      some (5 : Int32)
    else
      if (M.1 55 0 8) < 0 then
        some (8 : Int32)
      else
        some (0 : Int32)
set_option maxRecDepth 20000 in
set_option maxHeartbeats 2000000 in
theorem c_X11_whyNoHarvest (E : wEnv) {x1 : Int32} {x2 : Int32} {M : Mem} {q : Int32} (h : f_X11_whyNoHarvest x1 x2 M = some q) : Mt E yX11_whyNoHarvest cX11_whyNoHarvest 3 (some .int) 2 [.ref (ad E 50 0), .int x1, .int x2] M (some (.int q)) M := by
  unfold f_X11_whyNoHarvest at h
  refine mt_intro (own := RX11) (lv0 := [(0, .ref (ad E 50 0)), (1, .int x1), (2, .int x2)]) (by decide) rfl rfl rfl (fun Y C R => ?_)
  refine g_aload_n C dX11_whyNoHarvest_0 rfl rfl ?_
  refine g_iload_n C dX11_whyNoHarvest_1 rfl rfl ?_
  obtain ⟨r1, hr1, h⟩ := Option.bind_eq_some_iff.mp h
  refine call_X11_352 C dX11_whyNoHarvest_2 (by decide) (c_X11_isCropAt E hr1) (by decide) rfl ?_
  refine g_if_ne (tgt := 12) C dX11_whyNoHarvest_5 (by decide) h (fun h => ?_) (fun h => ?_)
  · refine g_iload_n C dX11_whyNoHarvest_12 rfl rfl ?_
    refine g_i2l C dX11_whyNoHarvest_13 ?_
    refine g_lconst (v := (1 : Int64)) C dX11_whyNoHarvest_14 (by decide) ?_
    refine g_ldc2 C dX11_whyNoHarvest_15 qc_X11_165 ?_
    obtain ⟨r2, hr2, h⟩ := Option.bind_eq_some_iff.mp h
    refine call_X11_106 C dX11_whyNoHarvest_18 (c_X11_isIn E hr2) (by decide) rfl ?_
    refine g_if_ne (tgt := 28) C dX11_whyNoHarvest_21 (by decide) h (fun h => ?_) (fun h => ?_)
    · refine g_aload_n C dX11_whyNoHarvest_28 rfl rfl ?_
      refine get_X11_35 C dX11_whyNoHarvest_29 (by decide) ?_
      refine g_bipush (v := (8 : Int32)) C dX11_whyNoHarvest_32 (by decide) ?_
      refine ld_55 (j := 8) C dX11_whyNoHarvest_34 (by decide) (by decide) rfl ?_
      refine g_if_ge (tgt := 43) C dX11_whyNoHarvest_35 (by decide) h (fun h => ?_) (fun h => ?_)
      · refine g_iconst (v := (0 : Int32)) C dX11_whyNoHarvest_43 (by decide) ?_
        exact g_iret C R dX11_whyNoHarvest_44 (Option.some.inj h) rfl
      · refine g_bipush (v := (8 : Int32)) C dX11_whyNoHarvest_38 (by decide) ?_
        refine g_goto (tgt := 44) C dX11_whyNoHarvest_40 (by decide) ?_
        exact g_iret C R dX11_whyNoHarvest_44 (Option.some.inj h) rfl
    · refine g_iconst (v := (5 : Int32)) C dX11_whyNoHarvest_24 (by decide) ?_
      refine g_goto (tgt := 44) C dX11_whyNoHarvest_25 (by decide) ?_
      exact g_iret C R dX11_whyNoHarvest_44 (Option.some.inj h) rfl
  · refine g_iconst (v := (2 : Int32)) C dX11_whyNoHarvest_8 (by decide) ?_
    refine g_goto (tgt := 44) C dX11_whyNoHarvest_9 (by decide) ?_
    exact g_iret C R dX11_whyNoHarvest_44 (Option.some.inj h) rfl
noncomputable def f_X11_harvest (x1 : Int32) (x2 : Int32) (M : Mem) : Option (Int32 × Mem) :=
  let M1 := sR M 50 0 (upd (M.1 50 0) 1 (0 : Int32))
  (f_X11_whyNoHarvest x1 x2 M1).bind fun r2 =>
  let M3 := sR M1 50 0 (upd (M1.1 50 0) 0 r2)
  if 0 < (M3.1 50 0 0) then
    some ((-1 : Int32), M3)
  else
    (f_X11_harvests x1 x2 M3).bind fun M4 =>
    if inb (((6 : Int32) * x2) + (M4.1 55 0 8)) 126 = true then
     some ((M4.1 62 0 ((((6 : Int32) * x2) + (M4.1 55 0 8)).toNatClampNeg)), M4)
    else none
set_option maxRecDepth 20000 in
set_option maxHeartbeats 2000000 in
theorem c_X11_harvest (E : wEnv) {x1 : Int32} {x2 : Int32} {M : Mem} {q : (Int32 × Mem)} (h : f_X11_harvest x1 x2 M = some q) : Mt E yX11_harvest cX11_harvest 3 (some .int) 3 [.ref (ad E 50 0), .int x1, .int x2] M (some (.int q.1)) q.2 := by
  unfold f_X11_harvest at h
  refine mt_intro (own := RX11) (lv0 := [(0, .ref (ad E 50 0)), (1, .int x1), (2, .int x2)]) (by decide) rfl rfl rfl (fun Y C R => ?_)
  refine g_aload_n C dX11_harvest_0 rfl rfl ?_
  refine g_iconst (v := (0 : Int32)) C dX11_harvest_1 (by decide) ?_
  refine put_X11_71 C dX11_harvest_2 (by decide) ?_
  refine g_aload_n C dX11_harvest_5 rfl rfl ?_
  refine g_aload_n C dX11_harvest_6 rfl rfl ?_
  refine g_iload_n C dX11_harvest_7 rfl rfl ?_
  refine g_iload_n C dX11_harvest_8 rfl rfl ?_
  obtain ⟨r2, hr2, h⟩ := Option.bind_eq_some_iff.mp h
  refine call_X11_466 C dX11_harvest_9 (by decide) (c_X11_whyNoHarvest E hr2) (by decide) rfl ?_
  refine put_X11_74 C dX11_harvest_12 (by decide) ?_
  refine g_aload_n C dX11_harvest_15 rfl rfl ?_
  refine get_X11_74 C dX11_harvest_16 (by decide) ?_
  refine g_if_le (tgt := 24) C dX11_harvest_19 (by decide) h (fun h => ?_) (fun h => ?_)
  · refine g_aload_n C dX11_harvest_24 rfl rfl ?_
    refine g_iload_n C dX11_harvest_25 rfl rfl ?_
    refine g_iload_n C dX11_harvest_26 rfl rfl ?_
    obtain ⟨M4, hr4, h⟩ := Option.bind_eq_some_iff.mp h
    refine call_X11_469 C dX11_harvest_27 (by decide) (c_X11_harvests E hr4) (by decide) rfl ?_
    refine g_aload_n C dX11_harvest_30 rfl rfl ?_
    refine get_X11_62 C dX11_harvest_31 (by decide) ?_
    refine g_bipush (v := (6 : Int32)) C dX11_harvest_34 (by decide) ?_
    refine g_iload_n C dX11_harvest_36 rfl rfl ?_
    refine g_imul C dX11_harvest_37 ?_
    refine g_aload_n C dX11_harvest_38 rfl rfl ?_
    refine get_X11_35 C dX11_harvest_39 (by decide) ?_
    refine g_bipush (v := (8 : Int32)) C dX11_harvest_42 (by decide) ?_
    refine ld_55 (j := 8) C dX11_harvest_44 (by decide) (by decide) rfl ?_
    refine g_iadd C dX11_harvest_45 ?_
    obtain ⟨hb5, h⟩ := of_ite h
    refine ld_62 (j := _) C dX11_harvest_46 (by decide) hb5 rfl ?_
    exact g_iret C R dX11_harvest_47 (fst_of h) (snd_of h)
  · refine g_iconst (v := (-1 : Int32)) C dX11_harvest_22 (by decide) ?_
    exact g_iret C R dX11_harvest_23 (fst_of h) (snd_of h)
noncomputable def f_X11_harvestNow_35 (x2 : Int32) (M : Mem) : Nat → Int32 → Int32 → Option (Int32 × Mem)
  | 0, _, _ => none
  | n + 1, x3, x4 =>
  if (-2 : Int32) < x4 then
    (f_X11_behindOf (M.1 55 0 8) x4 M).bind fun r5 =>
    if inb (((6 : Int32) * (x2 - (1 : Int32))) + r5) 126 = true then
     (f_X11_behindOf (M.1 55 0 8) x3 M).bind fun r7 =>
     if inb (((6 : Int32) * (x2 - (1 : Int32))) + r7) 126 = true then
      if (M.1 62 0 ((((6 : Int32) * (x2 - (1 : Int32))) + r7).toNatClampNeg)) < (M.1 62 0 ((((6 : Int32) * (x2 - (1 : Int32))) + r5).toNatClampNeg)) then
        f_X11_harvestNow_35 x2 M n x4 (x4 + (-1 : Int32))
      else
        f_X11_harvestNow_35 x2 M n x3 (x4 + (-1 : Int32))
     else none
    else none
  else
    some (x3, M)
noncomputable def f_X11_harvestNow (x1 : Int32) (x2 : Int32) (M : Mem) : Option (Int32 × Mem) :=
  let M1 := sR M 50 0 (upd (M.1 50 0) 1 (0 : Int32))
  (f_X11_whyNoHarvest x1 x2 M1).bind fun r2 =>
  let M3 := sR M1 50 0 (upd (M1.1 50 0) 0 r2)
  if 0 < (M3.1 50 0 0) then
    some ((-1 : Int32), M3)
  else
    (f_X11_harvests x1 x2 M3).bind fun M4 =>
    f_X11_harvestNow_35 x2 M4 FU (1 : Int32) (0 : Int32)
set_option maxRecDepth 20000 in
set_option maxHeartbeats 2000000 in
theorem b_X11_harvestNow_35 {E : wEnv} {Y : YT} (C : Cx E Y cX11_harvestNow 5 RX11 3) {q : (Int32 × Mem)} {M : Mem} (R : Rx E Y (some .int) (some (.int q.1)) q.2) {x2 : Int32} (n : Nat) : ∀ {x3 : Int32} {x4 : Int32} (_ : f_X11_harvestNow_35 x2 M n x3 x4 = some q), G E Y 5 M 35 [(0, .ref (ad E 50 0)), (2, .int x2), (3, .int x3), (4, .int x4)] [] := by
  induction n with
  | zero =>
    intro x3 x4 h
    cases (show none = some q from h)
  | succ n ih =>
    intro x3 x4 h
    rw [f_X11_harvestNow_35] at h
    refine g_iload C dX11_harvestNow_35 rfl ?_
    refine g_bipush (v := (-2 : Int32)) C dX11_harvestNow_37 (by decide) ?_
    refine g_icmp_le (tgt := 103) C dX11_harvestNow_39 (by decide) h (fun h => ?_) (fun h => ?_)
    · refine g_iload_n C dX11_harvestNow_103 rfl rfl ?_
      exact g_iret C R dX11_harvestNow_104 (fst_of h) (snd_of h)
    · refine g_aload_n C dX11_harvestNow_42 rfl rfl ?_
      refine get_X11_62 C dX11_harvestNow_43 (by decide) ?_
      refine g_bipush (v := (6 : Int32)) C dX11_harvestNow_46 (by decide) ?_
      refine g_iload_n C dX11_harvestNow_48 rfl rfl ?_
      refine g_iconst (v := (1 : Int32)) C dX11_harvestNow_49 (by decide) ?_
      refine g_isub C dX11_harvestNow_50 ?_
      refine g_imul C dX11_harvestNow_51 ?_
      refine g_aload_n C dX11_harvestNow_52 rfl rfl ?_
      refine g_aload_n C dX11_harvestNow_53 rfl rfl ?_
      refine get_X11_35 C dX11_harvestNow_54 (by decide) ?_
      refine g_bipush (v := (8 : Int32)) C dX11_harvestNow_57 (by decide) ?_
      refine ld_55 (j := 8) C dX11_harvestNow_59 (by decide) (by decide) rfl ?_
      refine g_iload C dX11_harvestNow_60 rfl ?_
      obtain ⟨r5, hr5, h⟩ := Option.bind_eq_some_iff.mp h
      refine call_X11_349 C dX11_harvestNow_62 (by decide) (c_X11_behindOf E hr5) (by decide) rfl ?_
      refine g_iadd C dX11_harvestNow_65 ?_
      obtain ⟨hb6, h⟩ := of_ite h
      refine ld_62 (j := _) C dX11_harvestNow_66 (by decide) hb6 rfl ?_
      refine g_aload_n C dX11_harvestNow_67 rfl rfl ?_
      refine get_X11_62 C dX11_harvestNow_68 (by decide) ?_
      refine g_bipush (v := (6 : Int32)) C dX11_harvestNow_71 (by decide) ?_
      refine g_iload_n C dX11_harvestNow_73 rfl rfl ?_
      refine g_iconst (v := (1 : Int32)) C dX11_harvestNow_74 (by decide) ?_
      refine g_isub C dX11_harvestNow_75 ?_
      refine g_imul C dX11_harvestNow_76 ?_
      refine g_aload_n C dX11_harvestNow_77 rfl rfl ?_
      refine g_aload_n C dX11_harvestNow_78 rfl rfl ?_
      refine get_X11_35 C dX11_harvestNow_79 (by decide) ?_
      refine g_bipush (v := (8 : Int32)) C dX11_harvestNow_82 (by decide) ?_
      refine ld_55 (j := 8) C dX11_harvestNow_84 (by decide) (by decide) rfl ?_
      refine g_iload_n C dX11_harvestNow_85 rfl rfl ?_
      obtain ⟨r7, hr7, h⟩ := Option.bind_eq_some_iff.mp h
      refine call_X11_349 C dX11_harvestNow_86 (by decide) (c_X11_behindOf E hr7) (by decide) rfl ?_
      refine g_iadd C dX11_harvestNow_89 ?_
      obtain ⟨hb8, h⟩ := of_ite h
      refine ld_62 (j := _) C dX11_harvestNow_90 (by decide) hb8 rfl ?_
      refine g_icmp_le (tgt := 97) C dX11_harvestNow_91 (by decide) h (fun h => ?_) (fun h => ?_)
      · refine g_iinc (w := (-1 : Int32)) C dX11_harvestNow_97 rfl (by decide) rfl ?_
        refine g_goto (tgt := 35) C dX11_harvestNow_100 (by decide) ?_
        exact g_sub (ih h) ⟨rfl, rfl, rfl, rfl, trivial⟩
      · refine g_iload C dX11_harvestNow_94 rfl ?_
        refine g_istore_n C dX11_harvestNow_96 rfl rfl ?_
        refine g_iinc (w := (-1 : Int32)) C dX11_harvestNow_97 rfl (by decide) rfl ?_
        refine g_goto (tgt := 35) C dX11_harvestNow_100 (by decide) ?_
        exact g_sub (ih h) ⟨rfl, rfl, rfl, rfl, trivial⟩
set_option maxRecDepth 20000 in
set_option maxHeartbeats 2000000 in
theorem c_X11_harvestNow (E : wEnv) {x1 : Int32} {x2 : Int32} {M : Mem} {q : (Int32 × Mem)} (h : f_X11_harvestNow x1 x2 M = some q) : Mt E yX11_harvestNow cX11_harvestNow 5 (some .int) 3 [.ref (ad E 50 0), .int x1, .int x2] M (some (.int q.1)) q.2 := by
  unfold f_X11_harvestNow at h
  refine mt_intro (own := RX11) (lv0 := [(0, .ref (ad E 50 0)), (1, .int x1), (2, .int x2)]) (by decide) rfl rfl rfl (fun Y C R => ?_)
  refine g_aload_n C dX11_harvestNow_0 rfl rfl ?_
  refine g_iconst (v := (0 : Int32)) C dX11_harvestNow_1 (by decide) ?_
  refine put_X11_71 C dX11_harvestNow_2 (by decide) ?_
  refine g_aload_n C dX11_harvestNow_5 rfl rfl ?_
  refine g_aload_n C dX11_harvestNow_6 rfl rfl ?_
  refine g_iload_n C dX11_harvestNow_7 rfl rfl ?_
  refine g_iload_n C dX11_harvestNow_8 rfl rfl ?_
  obtain ⟨r2, hr2, h⟩ := Option.bind_eq_some_iff.mp h
  refine call_X11_466 C dX11_harvestNow_9 (by decide) (c_X11_whyNoHarvest E hr2) (by decide) rfl ?_
  refine put_X11_74 C dX11_harvestNow_12 (by decide) ?_
  refine g_aload_n C dX11_harvestNow_15 rfl rfl ?_
  refine get_X11_74 C dX11_harvestNow_16 (by decide) ?_
  refine g_if_le (tgt := 24) C dX11_harvestNow_19 (by decide) h (fun h => ?_) (fun h => ?_)
  · refine g_aload_n C dX11_harvestNow_24 rfl rfl ?_
    refine g_iload_n C dX11_harvestNow_25 rfl rfl ?_
    refine g_iload_n C dX11_harvestNow_26 rfl rfl ?_
    obtain ⟨M4, hr4, h⟩ := Option.bind_eq_some_iff.mp h
    refine call_X11_469 C dX11_harvestNow_27 (by decide) (c_X11_harvests E hr4) (by decide) rfl ?_
    refine g_iconst (v := (1 : Int32)) C dX11_harvestNow_30 (by decide) ?_
    refine g_istore_n C dX11_harvestNow_31 rfl rfl ?_
    refine g_iconst (v := (0 : Int32)) C dX11_harvestNow_32 (by decide) ?_
    refine g_istore C dX11_harvestNow_33 rfl ?_
    exact g_sub (b_X11_harvestNow_35 C R _ h) ⟨rfl, rfl, rfl, rfl, trivial⟩
  · refine g_iconst (v := (-1 : Int32)) C dX11_harvestNow_22 (by decide) ?_
    exact g_iret C R dX11_harvestNow_23 (fst_of h) (snd_of h)
noncomputable def f_X11_draw (x1 : Int32) (M : Mem) : Option (Int32 × Mem) :=
  let M1 := sR M 50 0 (upd (M.1 50 0) 39 (jrem (((M.1 50 0 39) * (2927 : Int32)) + (10627 : Int32)) (65536 : Int32)))
  if x1 = 0 then none else
  some ((jrem ((M1.1 50 0 39) / (8 : Int32)) x1), M1)
set_option maxRecDepth 20000 in
set_option maxHeartbeats 2000000 in
theorem c_X11_draw (E : wEnv) {x1 : Int32} {M : Mem} {q : (Int32 × Mem)} (h : f_X11_draw x1 M = some q) : Mt E yX11_draw cX11_draw 2 (some .int) 0 [.ref (ad E 50 0), .int x1] M (some (.int q.1)) q.2 := by
  unfold f_X11_draw at h
  refine mt_intro (own := RX11) (lv0 := [(0, .ref (ad E 50 0)), (1, .int x1)]) (by decide) rfl rfl rfl (fun Y C R => ?_)
  refine g_aload_n C dX11_draw_0 rfl rfl ?_
  refine g_aload_n C dX11_draw_1 rfl rfl ?_
  refine get_X11_472 C dX11_draw_2 (by decide) ?_
  refine g_sipush (v := (2927 : Int32)) C dX11_draw_5 (by decide) ?_
  refine g_imul C dX11_draw_8 ?_
  refine g_sipush (v := (10627 : Int32)) C dX11_draw_9 (by decide) ?_
  refine g_iadd C dX11_draw_12 ?_
  refine g_ldcw C dX11_draw_13 qc_X11_475 ?_
  refine g_irem C dX11_draw_16 (by decide) ?_
  refine put_X11_472 C dX11_draw_17 (by decide) ?_
  refine g_aload_n C dX11_draw_20 rfl rfl ?_
  refine get_X11_472 C dX11_draw_21 (by decide) ?_
  refine g_bipush (v := (8 : Int32)) C dX11_draw_24 (by decide) ?_
  refine g_idiv C dX11_draw_26 (by decide) ?_
  refine g_iload_n C dX11_draw_27 rfl rfl ?_
  obtain ⟨hz2, h⟩ := of_iten h
  refine g_irem C dX11_draw_28 hz2 ?_
  exact g_iret C R dX11_draw_29 (fst_of h) (snd_of h)
noncomputable def f_X11_moods_2 : Nat → Int32 → Mem → Option Mem
  | 0, _, _ => none
  | n + 1, x1, M =>
  if x1 < (M.1 55 0 0) then
    (f_X11_isSeated x1 M).bind fun r1 =>
    if r1 = 0 then
      f_X11_moods_2 n (x1 + (1 : Int32)) M
    else
      if inb ((42 : Int32) + x1) 2375 = true then
       (f_X11_draw (9 : Int32) M).bind fun q3 =>
       (f_X11_cut_ (((M.1 55 0 (((42 : Int32) + x1).toNatClampNeg)) + q3.1) - (4 : Int32))).bind fun r4 =>
       if inb ((42 : Int32) + x1) 2375 = true then
        let M6 := sR q3.2 55 0 (upd (q3.2.1 55 0) (((42 : Int32) + x1).toNatClampNeg) r4)
        f_X11_moods_2 n (x1 + (1 : Int32)) M6
       else none
      else none
  else
    some M
noncomputable def f_X11_moods (M : Mem) : Option Mem :=
  f_X11_moods_2 FU (0 : Int32) M
set_option maxRecDepth 20000 in
set_option maxHeartbeats 2000000 in
theorem b_X11_moods_2 {E : wEnv} {Y : YT} (C : Cx E Y cX11_moods 2 RX11 2) {q : Mem} (R : Rx E Y none none q) (n : Nat) : ∀ {x1 : Int32} {M : Mem} (_ : f_X11_moods_2 n x1 M = some q), G E Y 2 M 2 [(0, .ref (ad E 50 0)), (1, .int x1)] [] := by
  induction n with
  | zero =>
    intro x1 M h
    cases (show none = some q from h)
  | succ n ih =>
    intro x1 M h
    rw [f_X11_moods_2] at h
    refine g_iload_n C dX11_moods_2 rfl rfl ?_
    refine g_aload_n C dX11_moods_3 rfl rfl ?_
    refine get_X11_35 C dX11_moods_4 (by decide) ?_
    refine g_iconst (v := (0 : Int32)) C dX11_moods_7 (by decide) ?_
    refine ld_55 (j := 0) C dX11_moods_8 (by decide) (by decide) rfl ?_
    refine g_icmp_ge (tgt := 56) C dX11_moods_9 (by decide) h (fun h => ?_) (fun h => ?_)
    · exact g_vret C R dX11_moods_56 (Option.some.inj h)
    · refine g_aload_n C dX11_moods_12 rfl rfl ?_
      refine g_iload_n C dX11_moods_13 rfl rfl ?_
      obtain ⟨r1, hr1, h⟩ := Option.bind_eq_some_iff.mp h
      refine call_X11_361 C dX11_moods_14 (by decide) (c_X11_isSeated E hr1) (by decide) rfl ?_
      refine g_if_eq (tgt := 50) C dX11_moods_17 (by decide) h (fun h => ?_) (fun h => ?_)
      · refine g_iinc (w := (1 : Int32)) C dX11_moods_50 rfl (by decide) rfl ?_
        refine g_goto (tgt := 2) C dX11_moods_53 (by decide) ?_
        exact g_sub (ih h) ⟨rfl, rfl, trivial⟩
      · refine g_aload_n C dX11_moods_20 rfl rfl ?_
        refine get_X11_35 C dX11_moods_21 (by decide) ?_
        refine g_bipush (v := (42 : Int32)) C dX11_moods_24 (by decide) ?_
        refine g_iload_n C dX11_moods_26 rfl rfl ?_
        refine g_iadd C dX11_moods_27 ?_
        refine g_aload_n C dX11_moods_28 rfl rfl ?_
        refine get_X11_35 C dX11_moods_29 (by decide) ?_
        refine g_bipush (v := (42 : Int32)) C dX11_moods_32 (by decide) ?_
        refine g_iload_n C dX11_moods_34 rfl rfl ?_
        refine g_iadd C dX11_moods_35 ?_
        obtain ⟨hb2, h⟩ := of_ite h
        refine ld_55 (j := _) C dX11_moods_36 (by decide) hb2 rfl ?_
        refine g_aload_n C dX11_moods_37 rfl rfl ?_
        refine g_bipush (v := (9 : Int32)) C dX11_moods_38 (by decide) ?_
        obtain ⟨q3, hr3, h⟩ := Option.bind_eq_some_iff.mp h
        refine call_X11_476 C dX11_moods_40 (by decide) (c_X11_draw E hr3) (by decide) rfl ?_
        refine g_iadd C dX11_moods_43 ?_
        refine g_iconst (v := (4 : Int32)) C dX11_moods_44 (by decide) ?_
        refine g_isub C dX11_moods_45 ?_
        obtain ⟨r4, hr4, h⟩ := Option.bind_eq_some_iff.mp h
        refine call_X11_366 C dX11_moods_46 (c_X11_cut_ E hr4) (by decide) rfl ?_
        obtain ⟨hb5, h⟩ := of_ite h
        refine st_55 (j := _) C dX11_moods_49 (by decide) hb5 rfl ?_
        refine g_iinc (w := (1 : Int32)) C dX11_moods_50 rfl (by decide) rfl ?_
        refine g_goto (tgt := 2) C dX11_moods_53 (by decide) ?_
        exact g_sub (ih h) ⟨rfl, rfl, trivial⟩
set_option maxRecDepth 20000 in
set_option maxHeartbeats 2000000 in
theorem c_X11_moods (E : wEnv) {M : Mem} {q : Mem} (h : f_X11_moods M = some q) : Mt E yX11_moods cX11_moods 2 none 2 [.ref (ad E 50 0)] M none q := by
  unfold f_X11_moods at h
  refine mt_intro (own := RX11) (lv0 := [(0, .ref (ad E 50 0))]) (by decide) rfl rfl rfl (fun Y C R => ?_)
  refine g_iconst (v := (0 : Int32)) C dX11_moods_0 (by decide) ?_
  refine g_istore_n C dX11_moods_1 rfl rfl ?_
  exact g_sub (b_X11_moods_2 C R _ h) ⟨rfl, rfl, trivial⟩
noncomputable def f_X11_dayEnds (M : Mem) : Option (Int32 × Mem) :=
  if (M.1 55 0 6) = (9999 : Int32) then
    some ((0 : Int32), M)
  else
    (f_X11_endsDay M).bind fun q1 =>
    let M2 := sR q1.2 50 0 (upd (q1.2.1 50 0) 42 ((q1.2.1 50 0 42) + (1 : Int32)))
    if 0 < q1.1 then
      let M6 := sR M2 50 0 (upd (M2.1 50 0) 43 ((M2.1 50 0 43) + (1 : Int32)))
      if q1.1 = 0 then
        let M8 := sR M6 50 0 (upd (M6.1 50 0) 44 ((M6.1 50 0 44) + (1 : Int32)))
        some ((1 : Int32), M8)
      else
        let M7 := sR M6 50 0 (upd (M6.1 50 0) 44 ((M6.1 50 0 44) + (0 : Int32)))
        some ((1 : Int32), M7)
    else
      let M3 := sR M2 50 0 (upd (M2.1 50 0) 43 ((M2.1 50 0 43) + (0 : Int32)))
      if q1.1 = 0 then
        let M5 := sR M3 50 0 (upd (M3.1 50 0) 44 ((M3.1 50 0 44) + (1 : Int32)))
        some ((1 : Int32), M5)
      else
        let M4 := sR M3 50 0 (upd (M3.1 50 0) 44 ((M3.1 50 0 44) + (0 : Int32)))
        some ((1 : Int32), M4)
set_option maxRecDepth 20000 in
set_option maxHeartbeats 2000000 in
theorem c_X11_dayEnds (E : wEnv) {M : Mem} {q : (Int32 × Mem)} (h : f_X11_dayEnds M = some q) : Mt E yX11_dayEnds cX11_dayEnds 2 (some .boolean) 5 [.ref (ad E 50 0)] M (some (.int q.1)) q.2 := by
  unfold f_X11_dayEnds at h
  refine mt_intro (own := RX11) (lv0 := [(0, .ref (ad E 50 0))]) (by decide) rfl rfl rfl (fun Y C R => ?_)
  refine g_aload_n C dX11_dayEnds_0 rfl rfl ?_
  refine get_X11_35 C dX11_dayEnds_1 (by decide) ?_
  refine g_bipush (v := (6 : Int32)) C dX11_dayEnds_4 (by decide) ?_
  refine ld_55 (j := 6) C dX11_dayEnds_6 (by decide) (by decide) rfl ?_
  refine g_sipush (v := (9999 : Int32)) C dX11_dayEnds_7 (by decide) ?_
  refine g_icmp_ne (tgt := 15) C dX11_dayEnds_10 (by decide) h (fun h => ?_) (fun h => ?_)
  · refine g_aload_n C dX11_dayEnds_15 rfl rfl ?_
    obtain ⟨q1, hr1, h⟩ := Option.bind_eq_some_iff.mp h
    refine call_X11_392 C dX11_dayEnds_16 (by decide) (c_X11_endsDay E hr1) (by decide) rfl ?_
    refine g_istore_n C dX11_dayEnds_19 rfl rfl ?_
    refine g_aload_n C dX11_dayEnds_20 rfl rfl ?_
    refine g_dup C dX11_dayEnds_21 rfl ?_
    refine get_X11_479 C dX11_dayEnds_22 (by decide) ?_
    refine g_iconst (v := (1 : Int32)) C dX11_dayEnds_25 (by decide) ?_
    refine g_iadd C dX11_dayEnds_26 ?_
    refine put_X11_479 C dX11_dayEnds_27 (by decide) ?_
    refine g_aload_n C dX11_dayEnds_30 rfl rfl ?_
    refine g_dup C dX11_dayEnds_31 rfl ?_
    refine get_X11_482 C dX11_dayEnds_32 (by decide) ?_
    refine g_iload_n C dX11_dayEnds_35 rfl rfl ?_
    refine g_if_le (tgt := 43) C dX11_dayEnds_36 (by decide) h (fun h => ?_) (fun h => ?_)
    · refine g_iconst (v := (0 : Int32)) C dX11_dayEnds_43 (by decide) ?_
      refine g_iadd C dX11_dayEnds_44 ?_
      refine put_X11_482 C dX11_dayEnds_45 (by decide) ?_
      refine g_aload_n C dX11_dayEnds_48 rfl rfl ?_
      refine g_dup C dX11_dayEnds_49 rfl ?_
      refine get_X11_485 C dX11_dayEnds_50 (by decide) ?_
      refine g_iload_n C dX11_dayEnds_53 rfl rfl ?_
      refine g_if_ne (tgt := 61) C dX11_dayEnds_54 (by decide) h (fun h => ?_) (fun h => ?_)
      · refine g_iconst (v := (0 : Int32)) C dX11_dayEnds_61 (by decide) ?_
        refine g_iadd C dX11_dayEnds_62 ?_
        refine put_X11_485 C dX11_dayEnds_63 (by decide) ?_
        refine g_iconst (v := (1 : Int32)) C dX11_dayEnds_66 (by decide) ?_
        exact g_zret C R dX11_dayEnds_67 (fst_of h) (Or.inr rfl) (snd_of h)
      · refine g_iconst (v := (1 : Int32)) C dX11_dayEnds_57 (by decide) ?_
        refine g_goto (tgt := 62) C dX11_dayEnds_58 (by decide) ?_
        refine g_iadd C dX11_dayEnds_62 ?_
        refine put_X11_485 C dX11_dayEnds_63 (by decide) ?_
        refine g_iconst (v := (1 : Int32)) C dX11_dayEnds_66 (by decide) ?_
        exact g_zret C R dX11_dayEnds_67 (fst_of h) (Or.inr rfl) (snd_of h)
    · refine g_iconst (v := (1 : Int32)) C dX11_dayEnds_39 (by decide) ?_
      refine g_goto (tgt := 44) C dX11_dayEnds_40 (by decide) ?_
      refine g_iadd C dX11_dayEnds_44 ?_
      refine put_X11_482 C dX11_dayEnds_45 (by decide) ?_
      refine g_aload_n C dX11_dayEnds_48 rfl rfl ?_
      refine g_dup C dX11_dayEnds_49 rfl ?_
      refine get_X11_485 C dX11_dayEnds_50 (by decide) ?_
      refine g_iload_n C dX11_dayEnds_53 rfl rfl ?_
      refine g_if_ne (tgt := 61) C dX11_dayEnds_54 (by decide) h (fun h => ?_) (fun h => ?_)
      · refine g_iconst (v := (0 : Int32)) C dX11_dayEnds_61 (by decide) ?_
        refine g_iadd C dX11_dayEnds_62 ?_
        refine put_X11_485 C dX11_dayEnds_63 (by decide) ?_
        refine g_iconst (v := (1 : Int32)) C dX11_dayEnds_66 (by decide) ?_
        exact g_zret C R dX11_dayEnds_67 (fst_of h) (Or.inr rfl) (snd_of h)
      · refine g_iconst (v := (1 : Int32)) C dX11_dayEnds_57 (by decide) ?_
        refine g_goto (tgt := 62) C dX11_dayEnds_58 (by decide) ?_
        refine g_iadd C dX11_dayEnds_62 ?_
        refine put_X11_485 C dX11_dayEnds_63 (by decide) ?_
        refine g_iconst (v := (1 : Int32)) C dX11_dayEnds_66 (by decide) ?_
        exact g_zret C R dX11_dayEnds_67 (fst_of h) (Or.inr rfl) (snd_of h)
  · refine g_iconst (v := (0 : Int32)) C dX11_dayEnds_13 (by decide) ?_
    exact g_zret C R dX11_dayEnds_14 (fst_of h) (Or.inl rfl) (snd_of h)
noncomputable def f_X11_does (x1 : Int32) (M : Mem) : Option (Int32 × Mem) :=
  if inb x1 2375 = true then
   let x2_2 := (M.1 55 0 x1.toNatClampNeg)
   if inb (x1 + (1 : Int32)) 2375 = true then
    let x3_4 := (M.1 55 0 ((x1 + (1 : Int32)).toNatClampNeg))
    if x2_2 = (2 : Int32) then
      (f_X11_dayEnds M).bind fun q15 =>
      if isB q15.1 = true then some (q15.1, q15.2) else none
    else
      if x2_2 = (3 : Int32) then
        (f_X11_strikesOne x3_4 M).bind fun q13 =>
        if isB q13.1 = true then some (q13.1, q13.2) else none
      else
        if x2_2 = (4 : Int32) then
          (f_X11_seatsOne x3_4 M).bind fun q11 =>
          if isB q11.1 = true then some (q11.1, q11.2) else none
        else
          if x2_2 = (5 : Int32) then
            if inb (x1 + (2 : Int32)) 2375 = true then
             (f_X11_bribesOne x3_4 (M.1 55 0 ((x1 + (2 : Int32)).toNatClampNeg)) M).bind fun q10 =>
             if q10.1 = 0 then
               some ((1 : Int32), q10.2)
             else
               some ((0 : Int32), q10.2)
            else none
          else
            if x2_2 = 0 then
              (f_X11_has (M.1 55 0 11) x3_4).bind fun r7 =>
              if r7 = 0 then
                (f_X11_showsOne x3_4 M).bind fun q8 =>
                some ((1 : Int32), q8.2)
              else
                some ((0 : Int32), M)
            else
              if x2_2 = (6 : Int32) then
                (f_X11_moods M).bind fun M6 =>
                some ((1 : Int32), M6)
              else
                if (9999 : Int32) < ((M.1 55 0 7) + x3_4) then
                  some ((0 : Int32), M)
                else
                  (f_X11_talksFor x3_4 M).bind fun M5 =>
                  some ((1 : Int32), M5)
   else none
  else none
set_option maxRecDepth 20000 in
set_option maxHeartbeats 2000000 in
theorem c_X11_does (E : wEnv) {x1 : Int32} {M : Mem} {q : (Int32 × Mem)} (h : f_X11_does x1 M = some q) : Mt E yX11_does cX11_does 4 (some .boolean) 6 [.ref (ad E 50 0), .int x1] M (some (.int q.1)) q.2 := by
  unfold f_X11_does at h
  refine mt_intro (own := RX11) (lv0 := [(0, .ref (ad E 50 0)), (1, .int x1)]) (by decide) rfl rfl rfl (fun Y C R => ?_)
  refine g_aload_n C dX11_does_0 rfl rfl ?_
  refine get_X11_35 C dX11_does_1 (by decide) ?_
  refine g_iload_n C dX11_does_4 rfl rfl ?_
  obtain ⟨hb1, h⟩ := of_ite h
  refine ld_55 (j := _) C dX11_does_5 (by decide) hb1 rfl ?_
  refine g_istore_n C dX11_does_6 rfl rfl ?_
  refine g_aload_n C dX11_does_7 rfl rfl ?_
  refine get_X11_35 C dX11_does_8 (by decide) ?_
  refine g_iload_n C dX11_does_11 rfl rfl ?_
  refine g_iconst (v := (1 : Int32)) C dX11_does_12 (by decide) ?_
  refine g_iadd C dX11_does_13 ?_
  obtain ⟨hb3, h⟩ := of_ite h
  refine ld_55 (j := _) C dX11_does_14 (by decide) hb3 rfl ?_
  refine g_istore_n C dX11_does_15 rfl rfl ?_
  refine g_iload_n C dX11_does_16 rfl rfl ?_
  refine g_iconst (v := (2 : Int32)) C dX11_does_17 (by decide) ?_
  refine g_icmp_ne (tgt := 26) C dX11_does_18 (by decide) h (fun h => ?_) (fun h => ?_)
  · refine g_iload_n C dX11_does_26 rfl rfl ?_
    refine g_iconst (v := (3 : Int32)) C dX11_does_27 (by decide) ?_
    refine g_icmp_ne (tgt := 37) C dX11_does_28 (by decide) h (fun h => ?_) (fun h => ?_)
    · refine g_iload_n C dX11_does_37 rfl rfl ?_
      refine g_iconst (v := (4 : Int32)) C dX11_does_38 (by decide) ?_
      refine g_icmp_ne (tgt := 48) C dX11_does_39 (by decide) h (fun h => ?_) (fun h => ?_)
      · refine g_iload_n C dX11_does_48 rfl rfl ?_
        refine g_iconst (v := (5 : Int32)) C dX11_does_49 (by decide) ?_
        refine g_icmp_ne (tgt := 75) C dX11_does_50 (by decide) h (fun h => ?_) (fun h => ?_)
        · refine g_iload_n C dX11_does_75 rfl rfl ?_
          refine g_if_ne (tgt := 103) C dX11_does_76 (by decide) h (fun h => ?_) (fun h => ?_)
          · refine g_iload_n C dX11_does_103 rfl rfl ?_
            refine g_bipush (v := (6 : Int32)) C dX11_does_104 (by decide) ?_
            refine g_icmp_ne (tgt := 115) C dX11_does_106 (by decide) h (fun h => ?_) (fun h => ?_)
            · refine g_aload_n C dX11_does_115 rfl rfl ?_
              refine get_X11_35 C dX11_does_116 (by decide) ?_
              refine g_bipush (v := (7 : Int32)) C dX11_does_119 (by decide) ?_
              refine ld_55 (j := 7) C dX11_does_121 (by decide) (by decide) rfl ?_
              refine g_iload_n C dX11_does_122 rfl rfl ?_
              refine g_iadd C dX11_does_123 ?_
              refine g_sipush (v := (9999 : Int32)) C dX11_does_124 (by decide) ?_
              refine g_icmp_le (tgt := 132) C dX11_does_127 (by decide) h (fun h => ?_) (fun h => ?_)
              · refine g_aload_n C dX11_does_132 rfl rfl ?_
                refine g_iload_n C dX11_does_133 rfl rfl ?_
                obtain ⟨M5, hr5, h⟩ := Option.bind_eq_some_iff.mp h
                refine call_X11_386 C dX11_does_134 (by decide) (c_X11_talksFor E hr5) (by decide) rfl ?_
                refine g_iconst (v := (1 : Int32)) C dX11_does_137 (by decide) ?_
                exact g_zret C R dX11_does_138 (fst_of h) (Or.inr rfl) (snd_of h)
              · refine g_iconst (v := (0 : Int32)) C dX11_does_130 (by decide) ?_
                exact g_zret C R dX11_does_131 (fst_of h) (Or.inl rfl) (snd_of h)
            · refine g_aload_n C dX11_does_109 rfl rfl ?_
              obtain ⟨M6, hr6, h⟩ := Option.bind_eq_some_iff.mp h
              refine call_X11_491 C dX11_does_110 (by decide) (c_X11_moods E hr6) (by decide) rfl ?_
              refine g_iconst (v := (1 : Int32)) C dX11_does_113 (by decide) ?_
              exact g_zret C R dX11_does_114 (fst_of h) (Or.inr rfl) (snd_of h)
          · refine g_aload_n C dX11_does_79 rfl rfl ?_
            refine get_X11_35 C dX11_does_80 (by decide) ?_
            refine g_bipush (v := (11 : Int32)) C dX11_does_83 (by decide) ?_
            refine ld_55 (j := 11) C dX11_does_85 (by decide) (by decide) rfl ?_
            refine g_iload_n C dX11_does_86 rfl rfl ?_
            obtain ⟨r7, hr7, h⟩ := Option.bind_eq_some_iff.mp h
            refine call_X11_110 C dX11_does_87 (c_X11_has E hr7) (by decide) rfl ?_
            refine g_if_eq (tgt := 95) C dX11_does_90 (by decide) h (fun h => ?_) (fun h => ?_)
            · refine g_aload_n C dX11_does_95 rfl rfl ?_
              refine g_iload_n C dX11_does_96 rfl rfl ?_
              obtain ⟨q8, hr8, h⟩ := Option.bind_eq_some_iff.mp h
              refine call_X11_368 C dX11_does_97 (by decide) (c_X11_showsOne E hr8) (by decide) rfl ?_
              refine g_pop C dX11_does_100 rfl ?_
              refine g_iconst (v := (1 : Int32)) C dX11_does_101 (by decide) ?_
              exact g_zret C R dX11_does_102 (fst_of h) (Or.inr rfl) (snd_of h)
            · refine g_iconst (v := (0 : Int32)) C dX11_does_93 (by decide) ?_
              exact g_zret C R dX11_does_94 (fst_of h) (Or.inl rfl) (snd_of h)
        · refine g_aload_n C dX11_does_53 rfl rfl ?_
          refine g_iload_n C dX11_does_54 rfl rfl ?_
          refine g_aload_n C dX11_does_55 rfl rfl ?_
          refine get_X11_35 C dX11_does_56 (by decide) ?_
          refine g_iload_n C dX11_does_59 rfl rfl ?_
          refine g_iconst (v := (2 : Int32)) C dX11_does_60 (by decide) ?_
          refine g_iadd C dX11_does_61 ?_
          obtain ⟨hb9, h⟩ := of_ite h
          refine ld_55 (j := _) C dX11_does_62 (by decide) hb9 rfl ?_
          obtain ⟨q10, hr10, h⟩ := Option.bind_eq_some_iff.mp h
          refine call_X11_401 C dX11_does_63 (by decide) (c_X11_bribesOne E hr10) (by decide) rfl ?_
          refine g_if_ne (tgt := 73) C dX11_does_66 (by decide) h (fun h => ?_) (fun h => ?_)
          · refine g_iconst (v := (0 : Int32)) C dX11_does_73 (by decide) ?_
            exact g_zret C R dX11_does_74 (fst_of h) (Or.inl rfl) (snd_of h)
          · refine g_iconst (v := (1 : Int32)) C dX11_does_69 (by decide) ?_
            refine g_goto (tgt := 74) C dX11_does_70 (by decide) ?_
            exact g_zret C R dX11_does_74 (fst_of h) (Or.inr rfl) (snd_of h)
      · refine g_aload_n C dX11_does_42 rfl rfl ?_
        refine g_iload_n C dX11_does_43 rfl rfl ?_
        obtain ⟨q11, hr11, h⟩ := Option.bind_eq_some_iff.mp h
        refine call_X11_398 C dX11_does_44 (by decide) (c_X11_seatsOne E hr11) (by decide) rfl ?_
        obtain ⟨hz12, h⟩ := of_ite h
        exact g_zret C R dX11_does_47 (fst_of h) (isB_of hz12) (snd_of h)
    · refine g_aload_n C dX11_does_31 rfl rfl ?_
      refine g_iload_n C dX11_does_32 rfl rfl ?_
      obtain ⟨q13, hr13, h⟩ := Option.bind_eq_some_iff.mp h
      refine call_X11_395 C dX11_does_33 (by decide) (c_X11_strikesOne E hr13) (by decide) rfl ?_
      obtain ⟨hz14, h⟩ := of_ite h
      exact g_zret C R dX11_does_36 (fst_of h) (isB_of hz14) (snd_of h)
  · refine g_aload_n C dX11_does_21 rfl rfl ?_
    obtain ⟨q15, hr15, h⟩ := Option.bind_eq_some_iff.mp h
    refine call_X11_488 C dX11_does_22 (by decide) (c_X11_dayEnds E hr15) (by decide) rfl ?_
    obtain ⟨hz16, h⟩ := of_ite h
    exact g_zret C R dX11_does_25 (fst_of h) (isB_of hz16) (snd_of h)
noncomputable def f_X11_isSo_68 (x1 : Int32) (ps0 : Int32) (M : Mem) : Option Int32 :=
  if inb (x1 + (7 : Int32)) 2375 = true then
   if (M.1 55 0 ((x1 + (7 : Int32)).toNatClampNeg)) = (60 : Int32) then
     if inb (x1 + (2 : Int32)) 2375 = true then
      if ps0 < (M.1 55 0 ((x1 + (2 : Int32)).toNatClampNeg)) then
        some (1 : Int32)
      else
        some (0 : Int32)
     else none
   else
     if inb (x1 + (7 : Int32)) 2375 = true then
      if (M.1 55 0 ((x1 + (7 : Int32)).toNatClampNeg)) = (62 : Int32) then
        if inb (x1 + (2 : Int32)) 2375 = true then
         if (M.1 55 0 ((x1 + (2 : Int32)).toNatClampNeg)) < ps0 then
           some (1 : Int32)
         else
           some (0 : Int32)
        else none
      else
        if inb (x1 + (2 : Int32)) 2375 = true then
         if ps0 = (M.1 55 0 ((x1 + (2 : Int32)).toNatClampNeg)) then
           some (1 : Int32)
         else
           some (0 : Int32)
        else none
     else none
  else none
noncomputable def f_X11_isSo (x1 : Int32) (M : Mem) : Option Int32 :=
  if inb (x1 + (6 : Int32)) 2375 = true then
   let x2_2 := (M.1 55 0 ((x1 + (6 : Int32)).toNatClampNeg))
   if x2_2 = (1 : Int32) then
     if inb (x1 + (1 : Int32)) 2375 = true then
      if (M.1 55 0 8) = (M.1 55 0 ((x1 + (1 : Int32)).toNatClampNeg)) then
        some (1 : Int32)
      else
        some (0 : Int32)
     else none
   else
     if x2_2 = 0 then
       (f_X11_votesFor (1 : Int32) M).bind fun r10 =>
       f_X11_isSo_68 x1 r10 M
     else
       if inb (x1 + (1 : Int32)) 2375 = true then
        if inb ((194 : Int32) + (M.1 55 0 ((x1 + (1 : Int32)).toNatClampNeg))) 2375 = true then
         f_X11_isSo_68 x1 (M.1 55 0 (((194 : Int32) + (M.1 55 0 ((x1 + (1 : Int32)).toNatClampNeg))).toNatClampNeg)) M
        else none
       else none
  else none
set_option maxRecDepth 20000 in
set_option maxHeartbeats 2000000 in
theorem b_X11_isSo_68 {E : wEnv} {Y : YT} (C : Cx E Y cX11_isSo 4 RX11 3) {q : Int32} {M : Mem} (R : Rx E Y (some .boolean) (some (.int q)) M) {x1 : Int32} {ps0 : Int32} (h : f_X11_isSo_68 x1 ps0 M = some q) : G E Y 4 M 68 [(0, .ref (ad E 50 0)), (1, .int x1)] [.int ps0] := by
  unfold f_X11_isSo_68 at h
  refine g_istore_n C dX11_isSo_68 rfl rfl ?_
  refine g_aload_n C dX11_isSo_69 rfl rfl ?_
  refine get_X11_35 C dX11_isSo_70 (by decide) ?_
  refine g_iload_n C dX11_isSo_73 rfl rfl ?_
  refine g_bipush (v := (7 : Int32)) C dX11_isSo_74 (by decide) ?_
  refine g_iadd C dX11_isSo_76 ?_
  obtain ⟨hb5, h⟩ := of_ite h
  refine ld_55 (j := _) C dX11_isSo_77 (by decide) hb5 rfl ?_
  refine g_bipush (v := (60 : Int32)) C dX11_isSo_78 (by decide) ?_
  refine g_icmp_ne (tgt := 103) C dX11_isSo_80 (by decide) h (fun h => ?_) (fun h => ?_)
  · refine g_aload_n C dX11_isSo_103 rfl rfl ?_
    refine get_X11_35 C dX11_isSo_104 (by decide) ?_
    refine g_iload_n C dX11_isSo_107 rfl rfl ?_
    refine g_bipush (v := (7 : Int32)) C dX11_isSo_108 (by decide) ?_
    refine g_iadd C dX11_isSo_110 ?_
    obtain ⟨hb6, h⟩ := of_ite h
    refine ld_55 (j := _) C dX11_isSo_111 (by decide) hb6 rfl ?_
    refine g_bipush (v := (62 : Int32)) C dX11_isSo_112 (by decide) ?_
    refine g_icmp_ne (tgt := 137) C dX11_isSo_114 (by decide) h (fun h => ?_) (fun h => ?_)
    · refine g_iload_n C dX11_isSo_137 rfl rfl ?_
      refine g_aload_n C dX11_isSo_138 rfl rfl ?_
      refine get_X11_35 C dX11_isSo_139 (by decide) ?_
      refine g_iload_n C dX11_isSo_142 rfl rfl ?_
      refine g_iconst (v := (2 : Int32)) C dX11_isSo_143 (by decide) ?_
      refine g_iadd C dX11_isSo_144 ?_
      obtain ⟨hb7, h⟩ := of_ite h
      refine ld_55 (j := _) C dX11_isSo_145 (by decide) hb7 rfl ?_
      refine g_icmp_ne (tgt := 153) C dX11_isSo_146 (by decide) h (fun h => ?_) (fun h => ?_)
      · refine g_iconst (v := (0 : Int32)) C dX11_isSo_153 (by decide) ?_
        exact g_zret C R dX11_isSo_154 (Option.some.inj h) (Or.inl rfl) rfl
      · refine g_iconst (v := (1 : Int32)) C dX11_isSo_149 (by decide) ?_
        refine g_goto (tgt := 154) C dX11_isSo_150 (by decide) ?_
        exact g_zret C R dX11_isSo_154 (Option.some.inj h) (Or.inr rfl) rfl
    · refine g_iload_n C dX11_isSo_117 rfl rfl ?_
      refine g_aload_n C dX11_isSo_118 rfl rfl ?_
      refine get_X11_35 C dX11_isSo_119 (by decide) ?_
      refine g_iload_n C dX11_isSo_122 rfl rfl ?_
      refine g_iconst (v := (2 : Int32)) C dX11_isSo_123 (by decide) ?_
      refine g_iadd C dX11_isSo_124 ?_
      obtain ⟨hb8, h⟩ := of_ite h
      refine ld_55 (j := _) C dX11_isSo_125 (by decide) hb8 rfl ?_
      refine g_icmp_le (tgt := 133) C dX11_isSo_126 (by decide) h (fun h => ?_) (fun h => ?_)
      · refine g_iconst (v := (0 : Int32)) C dX11_isSo_133 (by decide) ?_
        refine g_goto (tgt := 154) C dX11_isSo_134 (by decide) ?_
        exact g_zret C R dX11_isSo_154 (Option.some.inj h) (Or.inl rfl) rfl
      · refine g_iconst (v := (1 : Int32)) C dX11_isSo_129 (by decide) ?_
        refine g_goto (tgt := 154) C dX11_isSo_130 (by decide) ?_
        exact g_zret C R dX11_isSo_154 (Option.some.inj h) (Or.inr rfl) rfl
  · refine g_iload_n C dX11_isSo_83 rfl rfl ?_
    refine g_aload_n C dX11_isSo_84 rfl rfl ?_
    refine get_X11_35 C dX11_isSo_85 (by decide) ?_
    refine g_iload_n C dX11_isSo_88 rfl rfl ?_
    refine g_iconst (v := (2 : Int32)) C dX11_isSo_89 (by decide) ?_
    refine g_iadd C dX11_isSo_90 ?_
    obtain ⟨hb9, h⟩ := of_ite h
    refine ld_55 (j := _) C dX11_isSo_91 (by decide) hb9 rfl ?_
    refine g_icmp_ge (tgt := 99) C dX11_isSo_92 (by decide) h (fun h => ?_) (fun h => ?_)
    · refine g_iconst (v := (0 : Int32)) C dX11_isSo_99 (by decide) ?_
      refine g_goto (tgt := 154) C dX11_isSo_100 (by decide) ?_
      exact g_zret C R dX11_isSo_154 (Option.some.inj h) (Or.inl rfl) rfl
    · refine g_iconst (v := (1 : Int32)) C dX11_isSo_95 (by decide) ?_
      refine g_goto (tgt := 154) C dX11_isSo_96 (by decide) ?_
      exact g_zret C R dX11_isSo_154 (Option.some.inj h) (Or.inr rfl) rfl
set_option maxRecDepth 20000 in
set_option maxHeartbeats 2000000 in
theorem c_X11_isSo (E : wEnv) {x1 : Int32} {M : Mem} {q : Int32} (h : f_X11_isSo x1 M = some q) : Mt E yX11_isSo cX11_isSo 4 (some .boolean) 3 [.ref (ad E 50 0), .int x1] M (some (.int q)) M := by
  unfold f_X11_isSo at h
  refine mt_intro (own := RX11) (lv0 := [(0, .ref (ad E 50 0)), (1, .int x1)]) (by decide) rfl rfl rfl (fun Y C R => ?_)
  refine g_aload_n C dX11_isSo_0 rfl rfl ?_
  refine get_X11_35 C dX11_isSo_1 (by decide) ?_
  refine g_iload_n C dX11_isSo_4 rfl rfl ?_
  refine g_bipush (v := (6 : Int32)) C dX11_isSo_5 (by decide) ?_
  refine g_iadd C dX11_isSo_7 ?_
  obtain ⟨hb1, h⟩ := of_ite h
  refine ld_55 (j := _) C dX11_isSo_8 (by decide) hb1 rfl ?_
  refine g_istore_n C dX11_isSo_9 rfl rfl ?_
  refine g_iload_n C dX11_isSo_10 rfl rfl ?_
  refine g_iconst (v := (1 : Int32)) C dX11_isSo_11 (by decide) ?_
  refine g_icmp_ne (tgt := 39) C dX11_isSo_12 (by decide) h (fun h => ?_) (fun h => ?_)
  · refine g_iload_n C dX11_isSo_39 rfl rfl ?_
    refine g_if_ne (tgt := 51) C dX11_isSo_40 (by decide) h (fun h => ?_) (fun h => ?_)
    · refine g_aload_n C dX11_isSo_51 rfl rfl ?_
      refine get_X11_35 C dX11_isSo_52 (by decide) ?_
      refine g_sipush (v := (194 : Int32)) C dX11_isSo_55 (by decide) ?_
      refine g_aload_n C dX11_isSo_58 rfl rfl ?_
      refine get_X11_35 C dX11_isSo_59 (by decide) ?_
      refine g_iload_n C dX11_isSo_62 rfl rfl ?_
      refine g_iconst (v := (1 : Int32)) C dX11_isSo_63 (by decide) ?_
      refine g_iadd C dX11_isSo_64 ?_
      obtain ⟨hb3, h⟩ := of_ite h
      refine ld_55 (j := _) C dX11_isSo_65 (by decide) hb3 rfl ?_
      refine g_iadd C dX11_isSo_66 ?_
      obtain ⟨hb4, h⟩ := of_ite h
      refine ld_55 (j := _) C dX11_isSo_67 (by decide) hb4 rfl ?_
      exact g_sub (b_X11_isSo_68 C R h) ⟨rfl, rfl, trivial⟩
    · refine g_aload_n C dX11_isSo_43 rfl rfl ?_
      refine g_iconst (v := (1 : Int32)) C dX11_isSo_44 (by decide) ?_
      obtain ⟨r10, hr10, h⟩ := Option.bind_eq_some_iff.mp h
      refine call_X11_374 C dX11_isSo_45 (by decide) (c_X11_votesFor E hr10) (by decide) rfl ?_
      refine g_goto (tgt := 68) C dX11_isSo_48 (by decide) ?_
      exact g_sub (b_X11_isSo_68 C R h) ⟨rfl, rfl, trivial⟩
  · refine g_aload_n C dX11_isSo_15 rfl rfl ?_
    refine get_X11_35 C dX11_isSo_16 (by decide) ?_
    refine g_bipush (v := (8 : Int32)) C dX11_isSo_19 (by decide) ?_
    refine ld_55 (j := 8) C dX11_isSo_21 (by decide) (by decide) rfl ?_
    refine g_aload_n C dX11_isSo_22 rfl rfl ?_
    refine get_X11_35 C dX11_isSo_23 (by decide) ?_
    refine g_iload_n C dX11_isSo_26 rfl rfl ?_
    refine g_iconst (v := (1 : Int32)) C dX11_isSo_27 (by decide) ?_
    refine g_iadd C dX11_isSo_28 ?_
    obtain ⟨hb11, h⟩ := of_ite h
    refine ld_55 (j := _) C dX11_isSo_29 (by decide) hb11 rfl ?_
    refine g_icmp_ne (tgt := 37) C dX11_isSo_30 (by decide) h (fun h => ?_) (fun h => ?_)
    · refine g_iconst (v := (0 : Int32)) C dX11_isSo_37 (by decide) ?_
      exact g_zret C R dX11_isSo_38 (Option.some.inj h) (Or.inl rfl) rfl
    · refine g_iconst (v := (1 : Int32)) C dX11_isSo_33 (by decide) ?_
      refine g_goto (tgt := 38) C dX11_isSo_34 (by decide) ?_
      exact g_zret C R dX11_isSo_38 (Option.some.inj h) (Or.inr rfl) rfl
noncomputable def f_X11_doOne_120 (rec : Int32 → Int32 → Mem → Option Mem) (x1 : Int32) (x2 : Int32) : Nat → Int32 → Mem → Option Mem
  | 0, _, _ => none
  | n + 1, x4, M =>
  if inb (x2 + (1 : Int32)) 2375 = true then
   if x4 < (M.1 55 0 ((x2 + (1 : Int32)).toNatClampNeg)) then
     if (M.1 50 0 38) = 0 then
       if inb (x2 + (8 : Int32)) 2375 = true then
        (rec (x1 + (1 : Int32)) (M.1 55 0 ((x2 + (8 : Int32)).toNatClampNeg)) M).bind fun M8 =>
        f_X11_doOne_120 rec x1 x2 n (x4 + (1 : Int32)) M8
       else none
     else
       some M
   else
     some M
  else none
noncomputable def f_X11_doOne (rec : Int32 → Int32 → Mem → Option Mem) (x1 : Int32) (M : Mem) : Option Mem :=
  if (M.1 50 0 40) = (300 : Int32) then
    let M16 := sR M 50 0 (upd (M.1 50 0) 38 (1 : Int32))
    let M17 := sR M16 50 0 (upd (M16.1 50 0) 45 (1 : Int32))
    some M17
  else
    let M1 := sR M 50 0 (upd (M.1 50 0) 40 ((M.1 50 0 40) + (1 : Int32)))
    let x2_2 := ((200 : Int32) + ((9 : Int32) * x1))
    if inb x2_2 2375 = true then
     let x3_4 := (M1.1 55 0 x2_2.toNatClampNeg)
     if x3_4 < (7 : Int32) then
       (f_X11_does x2_2 M1).bind fun q13 =>
       if q13.1 = 0 then
         let M14 := sR q13.2 50 0 (upd (q13.2.1 50 0) 41 ((M1.1 50 0 41) + (1 : Int32)))
         some M14
       else
         let M15 := sR q13.2 50 0 (upd (q13.2.1 50 0) 41 ((M1.1 50 0 41) + (0 : Int32)))
         some M15
     else
       if x3_4 = (7 : Int32) then
         (f_X11_isSo x2_2 M1).bind fun r9 =>
         if r9 = 0 then
           if x3_4 = (8 : Int32) then
             f_X11_doOne_120 rec x1 x2_2 FU (0 : Int32) M1
           else
             if (8 : Int32) < x3_4 then
               let M10 := sR M1 50 0 (upd (M1.1 50 0) 38 (1 : Int32))
               some M10
             else
               some M1
         else
           if inb (x2_2 + (8 : Int32)) 2375 = true then
            (rec (x1 + (1 : Int32)) (M1.1 55 0 ((x2_2 + (8 : Int32)).toNatClampNeg)) M1).bind fun M12 =>
            some M12
           else none
       else
         if x3_4 = (8 : Int32) then
           f_X11_doOne_120 rec x1 x2_2 FU (0 : Int32) M1
         else
           if (8 : Int32) < x3_4 then
             let M5 := sR M1 50 0 (upd (M1.1 50 0) 38 (1 : Int32))
             some M5
           else
             some M1
    else none
set_option maxRecDepth 20000 in
set_option maxHeartbeats 2000000 in
theorem b_X11_doOne_120 {E : wEnv} {Y : YT} {dd dr : Nat} {rec : Int32 → Int32 → Mem → Option Mem} (C : Cx E Y cX11_doOne 5 RX11 dd) (hrec : ∀ {x1 : Int32} {x2 : Int32} {M : Mem} {q : Mem}, rec x1 x2 M = some q → Mt E yX11_doAll cX11_doAll 4 none dr [.ref (ad E 50 0), .int x1, .int x2] M none q) (hdr : dr + 1 ≤ dd) (hdD : 7 ≤ dd) {q : Mem} (R : Rx E Y none none q) {x1 : Int32} {x2 : Int32} (n : Nat) : ∀ {x4 : Int32} {M : Mem} (_ : f_X11_doOne_120 rec x1 x2 n x4 M = some q), G E Y 5 M 120 [(0, .ref (ad E 50 0)), (1, .int x1), (2, .int x2), (4, .int x4)] [] := by
  induction n with
  | zero =>
    intro x4 M h
    cases (show none = some q from h)
  | succ n ih =>
    intro x4 M h
    rw [f_X11_doOne_120] at h
    refine g_iload C dX11_doOne_120 rfl ?_
    refine g_aload_n C dX11_doOne_122 rfl rfl ?_
    refine get_X11_35 C dX11_doOne_123 (by decide) ?_
    refine g_iload_n C dX11_doOne_126 rfl rfl ?_
    refine g_iconst (v := (1 : Int32)) C dX11_doOne_127 (by decide) ?_
    refine g_iadd C dX11_doOne_128 ?_
    obtain ⟨hb6, h⟩ := of_ite h
    refine ld_55 (j := _) C dX11_doOne_129 (by decide) hb6 rfl ?_
    refine g_icmp_ge (tgt := 162) C dX11_doOne_130 (by decide) h (fun h => ?_) (fun h => ?_)
    · refine g_goto (tgt := 176) C dX11_doOne_162 (by decide) ?_
      exact g_vret C R dX11_doOne_176 (Option.some.inj h)
    · refine g_aload_n C dX11_doOne_133 rfl rfl ?_
      refine get_X11_497 C dX11_doOne_134 (by decide) ?_
      refine g_if_ne (tgt := 162) C dX11_doOne_137 (by decide) h (fun h => ?_) (fun h => ?_)
      · refine g_goto (tgt := 176) C dX11_doOne_162 (by decide) ?_
        exact g_vret C R dX11_doOne_176 (Option.some.inj h)
      · refine g_aload_n C dX11_doOne_140 rfl rfl ?_
        refine g_iload_n C dX11_doOne_141 rfl rfl ?_
        refine g_iconst (v := (1 : Int32)) C dX11_doOne_142 (by decide) ?_
        refine g_iadd C dX11_doOne_143 ?_
        refine g_aload_n C dX11_doOne_144 rfl rfl ?_
        refine get_X11_35 C dX11_doOne_145 (by decide) ?_
        refine g_iload_n C dX11_doOne_148 rfl rfl ?_
        refine g_bipush (v := (8 : Int32)) C dX11_doOne_149 (by decide) ?_
        refine g_iadd C dX11_doOne_151 ?_
        obtain ⟨hb7, h⟩ := of_ite h
        refine ld_55 (j := _) C dX11_doOne_152 (by decide) hb7 rfl ?_
        obtain ⟨M8, hr8, h⟩ := Option.bind_eq_some_iff.mp h
        refine call_X11_512 C dX11_doOne_153 (by decide) (hrec hr8) (by omega) rfl ?_
        refine g_iinc (w := (1 : Int32)) C dX11_doOne_156 rfl (by decide) rfl ?_
        refine g_goto (tgt := 120) C dX11_doOne_159 (by decide) ?_
        exact g_sub (ih h) ⟨rfl, rfl, rfl, rfl, trivial⟩
set_option maxRecDepth 20000 in
set_option maxHeartbeats 2000000 in
theorem c_X11_doOne (E : wEnv) {dd dr : Nat} {rec : Int32 → Int32 → Mem → Option Mem} (hrec : ∀ {x1 : Int32} {x2 : Int32} {M : Mem} {q : Mem}, rec x1 x2 M = some q → Mt E yX11_doAll cX11_doAll 4 none dr [.ref (ad E 50 0), .int x1, .int x2] M none q) (hdr : dr + 1 ≤ dd) (hdD : 7 ≤ dd) {x1 : Int32} {M : Mem} {q : Mem} (h : f_X11_doOne rec x1 M = some q) : Mt E yX11_doOne cX11_doOne 5 none dd [.ref (ad E 50 0), .int x1] M none q := by
  unfold f_X11_doOne at h
  refine mt_intro (own := RX11) (lv0 := [(0, .ref (ad E 50 0)), (1, .int x1)]) (by decide) rfl rfl rfl (fun Y C R => ?_)
  refine g_aload_n C dX11_doOne_0 rfl rfl ?_
  refine get_X11_494 C dX11_doOne_1 (by decide) ?_
  refine g_sipush (v := (300 : Int32)) C dX11_doOne_4 (by decide) ?_
  refine g_icmp_ne (tgt := 21) C dX11_doOne_7 (by decide) h (fun h => ?_) (fun h => ?_)
  · refine g_aload_n C dX11_doOne_21 rfl rfl ?_
    refine g_dup C dX11_doOne_22 rfl ?_
    refine get_X11_494 C dX11_doOne_23 (by decide) ?_
    refine g_iconst (v := (1 : Int32)) C dX11_doOne_26 (by decide) ?_
    refine g_iadd C dX11_doOne_27 ?_
    refine put_X11_494 C dX11_doOne_28 (by decide) ?_
    refine g_sipush (v := (200 : Int32)) C dX11_doOne_31 (by decide) ?_
    refine g_bipush (v := (9 : Int32)) C dX11_doOne_34 (by decide) ?_
    refine g_iload_n C dX11_doOne_36 rfl rfl ?_
    refine g_imul C dX11_doOne_37 ?_
    refine g_iadd C dX11_doOne_38 ?_
    refine g_istore_n C dX11_doOne_39 rfl rfl ?_
    refine g_aload_n C dX11_doOne_40 rfl rfl ?_
    refine get_X11_35 C dX11_doOne_41 (by decide) ?_
    refine g_iload_n C dX11_doOne_44 rfl rfl ?_
    obtain ⟨hb3, h⟩ := of_ite h
    refine ld_55 (j := _) C dX11_doOne_45 (by decide) hb3 rfl ?_
    refine g_istore_n C dX11_doOne_46 rfl rfl ?_
    refine g_iload_n C dX11_doOne_47 rfl rfl ?_
    refine g_bipush (v := (7 : Int32)) C dX11_doOne_48 (by decide) ?_
    refine g_icmp_ge (tgt := 78) C dX11_doOne_50 (by decide) h (fun h => ?_) (fun h => ?_)
    · refine g_iload_n C dX11_doOne_78 rfl rfl ?_
      refine g_bipush (v := (7 : Int32)) C dX11_doOne_79 (by decide) ?_
      refine g_icmp_ne (tgt := 111) C dX11_doOne_81 (by decide) h (fun h => ?_) (fun h => ?_)
      · refine g_iload_n C dX11_doOne_111 rfl rfl ?_
        refine g_bipush (v := (8 : Int32)) C dX11_doOne_112 (by decide) ?_
        refine g_icmp_ne (tgt := 165) C dX11_doOne_114 (by decide) h (fun h => ?_) (fun h => ?_)
        · refine g_iload_n C dX11_doOne_165 rfl rfl ?_
          refine g_bipush (v := (8 : Int32)) C dX11_doOne_166 (by decide) ?_
          refine g_icmp_le (tgt := 176) C dX11_doOne_168 (by decide) h (fun h => ?_) (fun h => ?_)
          · exact g_vret C R dX11_doOne_176 (Option.some.inj h)
          · refine g_aload_n C dX11_doOne_171 rfl rfl ?_
            refine g_iconst (v := (1 : Int32)) C dX11_doOne_172 (by decide) ?_
            refine put_X11_497 C dX11_doOne_173 (by decide) (Or.inr rfl) ?_
            exact g_vret C R dX11_doOne_176 (Option.some.inj h)
        · refine g_iconst (v := (0 : Int32)) C dX11_doOne_117 (by decide) ?_
          refine g_istore C dX11_doOne_118 rfl ?_
          exact g_sub (b_X11_doOne_120 C hrec hdr hdD R _ h) ⟨rfl, rfl, rfl, rfl, trivial⟩
      · refine g_aload_n C dX11_doOne_84 rfl rfl ?_
        refine g_iload_n C dX11_doOne_85 rfl rfl ?_
        obtain ⟨r9, hr9, h⟩ := Option.bind_eq_some_iff.mp h
        refine call_X11_509 C dX11_doOne_86 (by decide) (c_X11_isSo E hr9) (by omega) rfl ?_
        refine g_if_eq (tgt := 111) C dX11_doOne_89 (by decide) h (fun h => ?_) (fun h => ?_)
        · refine g_iload_n C dX11_doOne_111 rfl rfl ?_
          refine g_bipush (v := (8 : Int32)) C dX11_doOne_112 (by decide) ?_
          refine g_icmp_ne (tgt := 165) C dX11_doOne_114 (by decide) h (fun h => ?_) (fun h => ?_)
          · refine g_iload_n C dX11_doOne_165 rfl rfl ?_
            refine g_bipush (v := (8 : Int32)) C dX11_doOne_166 (by decide) ?_
            refine g_icmp_le (tgt := 176) C dX11_doOne_168 (by decide) h (fun h => ?_) (fun h => ?_)
            · exact g_vret C R dX11_doOne_176 (Option.some.inj h)
            · refine g_aload_n C dX11_doOne_171 rfl rfl ?_
              refine g_iconst (v := (1 : Int32)) C dX11_doOne_172 (by decide) ?_
              refine put_X11_497 C dX11_doOne_173 (by decide) (Or.inr rfl) ?_
              exact g_vret C R dX11_doOne_176 (Option.some.inj h)
          · refine g_iconst (v := (0 : Int32)) C dX11_doOne_117 (by decide) ?_
            refine g_istore C dX11_doOne_118 rfl ?_
            exact g_sub (b_X11_doOne_120 C hrec hdr hdD R _ h) ⟨rfl, rfl, rfl, rfl, trivial⟩
        · refine g_aload_n C dX11_doOne_92 rfl rfl ?_
          refine g_iload_n C dX11_doOne_93 rfl rfl ?_
          refine g_iconst (v := (1 : Int32)) C dX11_doOne_94 (by decide) ?_
          refine g_iadd C dX11_doOne_95 ?_
          refine g_aload_n C dX11_doOne_96 rfl rfl ?_
          refine get_X11_35 C dX11_doOne_97 (by decide) ?_
          refine g_iload_n C dX11_doOne_100 rfl rfl ?_
          refine g_bipush (v := (8 : Int32)) C dX11_doOne_101 (by decide) ?_
          refine g_iadd C dX11_doOne_103 ?_
          obtain ⟨hb11, h⟩ := of_ite h
          refine ld_55 (j := _) C dX11_doOne_104 (by decide) hb11 rfl ?_
          obtain ⟨M12, hr12, h⟩ := Option.bind_eq_some_iff.mp h
          refine call_X11_512 C dX11_doOne_105 (by decide) (hrec hr12) (by omega) rfl ?_
          refine g_goto (tgt := 176) C dX11_doOne_108 (by decide) ?_
          exact g_vret C R dX11_doOne_176 (Option.some.inj h)
    · refine g_aload_n C dX11_doOne_53 rfl rfl ?_
      refine g_dup C dX11_doOne_54 rfl ?_
      refine get_X11_503 C dX11_doOne_55 (by decide) ?_
      refine g_aload_n C dX11_doOne_58 rfl rfl ?_
      refine g_iload_n C dX11_doOne_59 rfl rfl ?_
      obtain ⟨q13, hr13, h⟩ := Option.bind_eq_some_iff.mp h
      refine call_X11_506 C dX11_doOne_60 (by decide) (c_X11_does E hr13) (by omega) rfl ?_
      refine g_if_eq (tgt := 70) C dX11_doOne_63 (by decide) h (fun h => ?_) (fun h => ?_)
      · refine g_iconst (v := (1 : Int32)) C dX11_doOne_70 (by decide) ?_
        refine g_iadd C dX11_doOne_71 ?_
        refine put_X11_503 C dX11_doOne_72 (by decide) ?_
        refine g_goto (tgt := 176) C dX11_doOne_75 (by decide) ?_
        exact g_vret C R dX11_doOne_176 (Option.some.inj h)
      · refine g_iconst (v := (0 : Int32)) C dX11_doOne_66 (by decide) ?_
        refine g_goto (tgt := 71) C dX11_doOne_67 (by decide) ?_
        refine g_iadd C dX11_doOne_71 ?_
        refine put_X11_503 C dX11_doOne_72 (by decide) ?_
        refine g_goto (tgt := 176) C dX11_doOne_75 (by decide) ?_
        exact g_vret C R dX11_doOne_176 (Option.some.inj h)
  · refine g_aload_n C dX11_doOne_10 rfl rfl ?_
    refine g_iconst (v := (1 : Int32)) C dX11_doOne_11 (by decide) ?_
    refine put_X11_497 C dX11_doOne_12 (by decide) (Or.inr rfl) ?_
    refine g_aload_n C dX11_doOne_15 rfl rfl ?_
    refine g_iconst (v := (1 : Int32)) C dX11_doOne_16 (by decide) ?_
    refine put_X11_500 C dX11_doOne_17 (by decide) ?_
    exact g_vret C R dX11_doOne_20 (Option.some.inj h)
