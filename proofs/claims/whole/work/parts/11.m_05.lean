noncomputable def f_X11_signed_19 (x1 : Int32) (ps0 : Int32) (M : Mem) : Option (Int32 × Mem) :=
  if ps0 = 0 then
    (f_X11_count (0 : Int32) x1 M).bind fun q1 =>
    if ps0 = 0 then
      some (q1.1, q1.2)
    else
      some ((-q1.1), q1.2)
  else
    (f_X11_next M).bind fun M2 =>
    (f_X11_count (0 : Int32) x1 M2).bind fun q3 =>
    if ps0 = 0 then
      some (q3.1, q3.2)
    else
      some ((-q3.1), q3.2)
noncomputable def f_X11_signed_18 (x1 : Int32) (M : Mem) : Option (Int32 × Mem) :=
  f_X11_signed_19 x1 (0 : Int32) M
noncomputable def f_X11_signed (x1 : Int32) (M : Mem) : Option (Int32 × Mem) :=
  if (M.1 50 0 12) = 0 then
    (f_X11_isLess M).bind fun r4 =>
    if r4 = 0 then
      f_X11_signed_18 x1 M
    else
      f_X11_signed_19 x1 (1 : Int32) M
  else
    f_X11_signed_18 x1 M
set_option maxRecDepth 20000 in
set_option maxHeartbeats 2000000 in
theorem b_X11_signed_19 {E : wEnv} {Y : YT} (C : Cx E Y cX11_signed 4 RX11 3) {q : (Int32 × Mem)} (R : Rx E Y (some .int) (some (.int q.1)) q.2) {x1 : Int32} {ps0 : Int32} {M : Mem} (h : f_X11_signed_19 x1 ps0 M = some q) : G E Y 4 M 19 [(0, .ref (ad E 50 0)), (1, .int x1)] [.int ps0] := by
  unfold f_X11_signed_19 at h
  refine g_istore_n C dX11_signed_19 rfl rfl ?_
  refine g_iload_n C dX11_signed_20 rfl rfl ?_
  refine g_if_eq (tgt := 28) C dX11_signed_21 (by decide) h (fun h => ?_) (fun h => ?_)
  · refine g_aload_n C dX11_signed_28 rfl rfl ?_
    refine g_iconst (v := (0 : Int32)) C dX11_signed_29 (by decide) ?_
    refine g_iload_n C dX11_signed_30 rfl rfl ?_
    obtain ⟨q1, hr1, h⟩ := Option.bind_eq_some_iff.mp h
    refine call_X11_245 C dX11_signed_31 (by decide) (c_X11_count E hr1) (by decide) rfl ?_
    refine g_istore_n C dX11_signed_34 rfl rfl ?_
    refine g_iload_n C dX11_signed_35 rfl rfl ?_
    refine g_if_eq (tgt := 44) C dX11_signed_36 (by decide) h (fun h => ?_) (fun h => ?_)
    · refine g_iload_n C dX11_signed_44 rfl rfl ?_
      exact g_iret C R dX11_signed_45 (fst_of h) (snd_of h)
    · refine g_iload_n C dX11_signed_39 rfl rfl ?_
      refine g_ineg C dX11_signed_40 ?_
      refine g_goto (tgt := 45) C dX11_signed_41 (by decide) ?_
      exact g_iret C R dX11_signed_45 (fst_of h) (snd_of h)
  · refine g_aload_n C dX11_signed_24 rfl rfl ?_
    obtain ⟨M2, hr2, h⟩ := Option.bind_eq_some_iff.mp h
    refine call_X11_239 C dX11_signed_25 (by decide) (c_X11_next E hr2) (by decide) rfl ?_
    refine g_aload_n C dX11_signed_28 rfl rfl ?_
    refine g_iconst (v := (0 : Int32)) C dX11_signed_29 (by decide) ?_
    refine g_iload_n C dX11_signed_30 rfl rfl ?_
    obtain ⟨q3, hr3, h⟩ := Option.bind_eq_some_iff.mp h
    refine call_X11_245 C dX11_signed_31 (by decide) (c_X11_count E hr3) (by decide) rfl ?_
    refine g_istore_n C dX11_signed_34 rfl rfl ?_
    refine g_iload_n C dX11_signed_35 rfl rfl ?_
    refine g_if_eq (tgt := 44) C dX11_signed_36 (by decide) h (fun h => ?_) (fun h => ?_)
    · refine g_iload_n C dX11_signed_44 rfl rfl ?_
      exact g_iret C R dX11_signed_45 (fst_of h) (snd_of h)
    · refine g_iload_n C dX11_signed_39 rfl rfl ?_
      refine g_ineg C dX11_signed_40 ?_
      refine g_goto (tgt := 45) C dX11_signed_41 (by decide) ?_
      exact g_iret C R dX11_signed_45 (fst_of h) (snd_of h)
set_option maxRecDepth 20000 in
set_option maxHeartbeats 2000000 in
theorem b_X11_signed_18 {E : wEnv} {Y : YT} (C : Cx E Y cX11_signed 4 RX11 3) {q : (Int32 × Mem)} (R : Rx E Y (some .int) (some (.int q.1)) q.2) {x1 : Int32} {M : Mem} (h : f_X11_signed_18 x1 M = some q) : G E Y 4 M 18 [(0, .ref (ad E 50 0)), (1, .int x1)] [] := by
  unfold f_X11_signed_18 at h
  refine g_iconst (v := (0 : Int32)) C dX11_signed_18 (by decide) ?_
  exact g_sub (b_X11_signed_19 C R h) ⟨rfl, rfl, trivial⟩
set_option maxRecDepth 20000 in
set_option maxHeartbeats 2000000 in
theorem c_X11_signed (E : wEnv) {x1 : Int32} {M : Mem} {q : (Int32 × Mem)} (h : f_X11_signed x1 M = some q) : Mt E yX11_signed cX11_signed 4 (some .int) 3 [.ref (ad E 50 0), .int x1] M (some (.int q.1)) q.2 := by
  unfold f_X11_signed at h
  refine mt_intro (own := RX11) (lv0 := [(0, .ref (ad E 50 0)), (1, .int x1)]) (by decide) rfl rfl rfl (fun Y C R => ?_)
  refine g_aload_n C dX11_signed_0 rfl rfl ?_
  refine get_X11_229 C dX11_signed_1 (by decide) ?_
  refine g_if_ne (tgt := 18) C dX11_signed_4 (by decide) h (fun h => ?_) (fun h => ?_)
  · exact g_sub (b_X11_signed_18 C R h) ⟨rfl, rfl, trivial⟩
  · refine g_aload_n C dX11_signed_7 rfl rfl ?_
    obtain ⟨r4, hr4, h⟩ := Option.bind_eq_some_iff.mp h
    refine call_X11_180 C dX11_signed_8 (by decide) (c_X11_isLess E hr4) (by decide) rfl ?_
    refine g_if_eq (tgt := 18) C dX11_signed_11 (by decide) h (fun h => ?_) (fun h => ?_)
    · exact g_sub (b_X11_signed_18 C R h) ⟨rfl, rfl, trivial⟩
    · refine g_iconst (v := (1 : Int32)) C dX11_signed_14 (by decide) ?_
      refine g_goto (tgt := 19) C dX11_signed_15 (by decide) ?_
      exact g_sub (b_X11_signed_19 C R h) ⟨rfl, rfl, trivial⟩
noncomputable def f_X11_lay_2 (x1 : Int32) : Nat → Int32 → Mem → Option Mem
  | 0, _, _ => none
  | n + 1, x2, M =>
  if x2 < 0 then
    some M
  else
    if inb (M.1 50 0 8) 900 = true then
     let M2 := sR M 54 0 (upd (M.1 54 0) ((M.1 50 0 8).toNatClampNeg) (((x1 >>> (((8 : Int32) * x2) &&& 31)).toInt8.toInt32).toInt8.toInt32))
     let M3 := sR M2 50 0 (upd (M2.1 50 0) 8 ((M2.1 50 0 8) + (1 : Int32)))
     f_X11_lay_2 x1 n (x2 + (-1 : Int32)) M3
    else none
noncomputable def f_X11_lay (x1 : Int32) (M : Mem) : Option Mem :=
  f_X11_lay_2 x1 FU (3 : Int32) M
set_option maxRecDepth 20000 in
set_option maxHeartbeats 2000000 in
theorem b_X11_lay_2 {E : wEnv} {Y : YT} (C : Cx E Y cX11_lay 3 RX11 0) {q : Mem} (R : Rx E Y none none q) {x1 : Int32} (n : Nat) : ∀ {x2 : Int32} {M : Mem} (_ : f_X11_lay_2 x1 n x2 M = some q), G E Y 3 M 2 [(0, .ref (ad E 50 0)), (1, .int x1), (2, .int x2)] [] := by
  induction n with
  | zero =>
    intro x2 M h
    cases (show none = some q from h)
  | succ n ih =>
    intro x2 M h
    rw [f_X11_lay_2] at h
    refine g_iload_n C dX11_lay_2 rfl rfl ?_
    refine g_if_lt (tgt := 38) C dX11_lay_3 (by decide) h (fun h => ?_) (fun h => ?_)
    · exact g_vret C R dX11_lay_38 (Option.some.inj h)
    · refine g_aload_n C dX11_lay_6 rfl rfl ?_
      refine get_X11_24 C dX11_lay_7 (by decide) ?_
      refine g_aload_n C dX11_lay_10 rfl rfl ?_
      refine get_X11_248 C dX11_lay_11 (by decide) ?_
      refine g_iload_n C dX11_lay_14 rfl rfl ?_
      refine g_bipush (v := (8 : Int32)) C dX11_lay_15 (by decide) ?_
      refine g_iload_n C dX11_lay_17 rfl rfl ?_
      refine g_imul C dX11_lay_18 ?_
      refine g_ishr C dX11_lay_19 ?_
      refine g_i2b C dX11_lay_20 ?_
      obtain ⟨hb1, h⟩ := of_ite h
      refine st_54 (j := _) C dX11_lay_21 (by decide) hb1 rfl ?_
      refine g_aload_n C dX11_lay_22 rfl rfl ?_
      refine g_dup C dX11_lay_23 rfl ?_
      refine get_X11_248 C dX11_lay_24 (by decide) ?_
      refine g_iconst (v := (1 : Int32)) C dX11_lay_27 (by decide) ?_
      refine g_iadd C dX11_lay_28 ?_
      refine put_X11_248 C dX11_lay_29 (by decide) ?_
      refine g_iinc (w := (-1 : Int32)) C dX11_lay_32 rfl (by decide) rfl ?_
      refine g_goto (tgt := 2) C dX11_lay_35 (by decide) ?_
      exact g_sub (ih h) ⟨rfl, rfl, rfl, trivial⟩
set_option maxRecDepth 20000 in
set_option maxHeartbeats 2000000 in
theorem c_X11_lay (E : wEnv) {x1 : Int32} {M : Mem} {q : Mem} (h : f_X11_lay x1 M = some q) : Mt E yX11_lay cX11_lay 3 none 0 [.ref (ad E 50 0), .int x1] M none q := by
  unfold f_X11_lay at h
  refine mt_intro (own := RX11) (lv0 := [(0, .ref (ad E 50 0)), (1, .int x1)]) (by decide) rfl rfl rfl (fun Y C R => ?_)
  refine g_iconst (v := (3 : Int32)) C dX11_lay_0 (by decide) ?_
  refine g_istore_n C dX11_lay_1 rfl rfl ?_
  exact g_sub (b_X11_lay_2 C R _ h) ⟨rfl, rfl, rfl, trivial⟩
noncomputable def f_X11_feed (x1 : Int32) (x2 : Int32) (x3 : Int32) (x4 : Int32) (x5 : Int32) (M : Mem) : Option (Int32 × Mem) :=
  let M1 := sR M 50 0 (upd (M.1 50 0) 1 (0 : Int32))
  if (900 : Int32) < ((M1.1 50 0 8) + (20 : Int32)) then
    some ((-1 : Int32), M1)
  else
    (f_X11_lay x1 M1).bind fun M2 =>
    (f_X11_lay x2 M2).bind fun M3 =>
    (f_X11_lay x3 M3).bind fun M4 =>
    (f_X11_lay x4 M4).bind fun M5 =>
    (f_X11_lay x5 M5).bind fun M6 =>
    some ((M6.1 50 0 8), M6)
set_option maxRecDepth 20000 in
set_option maxHeartbeats 2000000 in
theorem c_X11_feed (E : wEnv) {x1 : Int32} {x2 : Int32} {x3 : Int32} {x4 : Int32} {x5 : Int32} {M : Mem} {q : (Int32 × Mem)} (h : f_X11_feed x1 x2 x3 x4 x5 M = some q) : Mt E yX11_feed cX11_feed 6 (some .int) 1 [.ref (ad E 50 0), .int x1, .int x2, .int x3, .int x4, .int x5] M (some (.int q.1)) q.2 := by
  unfold f_X11_feed at h
  refine mt_intro (own := RX11) (lv0 := [(0, .ref (ad E 50 0)), (1, .int x1), (2, .int x2), (3, .int x3), (4, .int x4), (5, .int x5)]) (by decide) rfl rfl rfl (fun Y C R => ?_)
  refine g_aload_n C dX11_feed_0 rfl rfl ?_
  refine g_iconst (v := (0 : Int32)) C dX11_feed_1 (by decide) ?_
  refine put_X11_71 C dX11_feed_2 (by decide) ?_
  refine g_aload_n C dX11_feed_5 rfl rfl ?_
  refine get_X11_248 C dX11_feed_6 (by decide) ?_
  refine g_bipush (v := (20 : Int32)) C dX11_feed_9 (by decide) ?_
  refine g_iadd C dX11_feed_11 ?_
  refine g_sipush (v := (900 : Int32)) C dX11_feed_12 (by decide) ?_
  refine g_icmp_le (tgt := 20) C dX11_feed_15 (by decide) h (fun h => ?_) (fun h => ?_)
  · refine g_aload_n C dX11_feed_20 rfl rfl ?_
    refine g_iload_n C dX11_feed_21 rfl rfl ?_
    obtain ⟨M2, hr2, h⟩ := Option.bind_eq_some_iff.mp h
    refine call_X11_251 C dX11_feed_22 (by decide) (c_X11_lay E hr2) (by decide) rfl ?_
    refine g_aload_n C dX11_feed_25 rfl rfl ?_
    refine g_iload_n C dX11_feed_26 rfl rfl ?_
    obtain ⟨M3, hr3, h⟩ := Option.bind_eq_some_iff.mp h
    refine call_X11_251 C dX11_feed_27 (by decide) (c_X11_lay E hr3) (by decide) rfl ?_
    refine g_aload_n C dX11_feed_30 rfl rfl ?_
    refine g_iload_n C dX11_feed_31 rfl rfl ?_
    obtain ⟨M4, hr4, h⟩ := Option.bind_eq_some_iff.mp h
    refine call_X11_251 C dX11_feed_32 (by decide) (c_X11_lay E hr4) (by decide) rfl ?_
    refine g_aload_n C dX11_feed_35 rfl rfl ?_
    refine g_iload C dX11_feed_36 rfl ?_
    obtain ⟨M5, hr5, h⟩ := Option.bind_eq_some_iff.mp h
    refine call_X11_251 C dX11_feed_38 (by decide) (c_X11_lay E hr5) (by decide) rfl ?_
    refine g_aload_n C dX11_feed_41 rfl rfl ?_
    refine g_iload C dX11_feed_42 rfl ?_
    obtain ⟨M6, hr6, h⟩ := Option.bind_eq_some_iff.mp h
    refine call_X11_251 C dX11_feed_44 (by decide) (c_X11_lay E hr6) (by decide) rfl ?_
    refine g_aload_n C dX11_feed_47 rfl rfl ?_
    refine get_X11_248 C dX11_feed_48 (by decide) ?_
    exact g_iret C R dX11_feed_51 (fst_of h) (snd_of h)
  · refine g_iconst (v := (-1 : Int32)) C dX11_feed_18 (by decide) ?_
    exact g_iret C R dX11_feed_19 (fst_of h) (snd_of h)
noncomputable def f_X11_starts (x1 : Int32) (x2 : Int32) (M : Mem) : Option (Int32 × Mem) :=
  if x1 < 0 then
    (f_X11_no (5 : Int32) M).bind fun q1 =>
    if isB q1.1 = true then some (q1.1, q1.2) else none
  else
    if (M.1 50 0 8) < x1 then
      (f_X11_no (5 : Int32) M).bind fun q3 =>
      if isB q3.1 = true then some (q3.1, q3.2) else none
    else
      if x2 < x1 then
        (f_X11_no (5 : Int32) M).bind fun q10 =>
        if isB q10.1 = true then some (q10.1, q10.2) else none
      else
        let M5 := sR M 50 0 (upd (M.1 50 0) 9 x1)
        let M6 := sR M5 50 0 (upd (M5.1 50 0) 8 (0 : Int32))
        let M7 := sR M6 50 0 (upd (M6.1 50 0) 16 (0 : Int32))
        let M8 := sR M7 50 0 (upd (M7.1 50 0) 12 (0 : Int32))
        (f_X11_next M8).bind fun M9 =>
        some ((1 : Int32), M9)
set_option maxRecDepth 20000 in
set_option maxHeartbeats 2000000 in
theorem c_X11_starts (E : wEnv) {x1 : Int32} {x2 : Int32} {M : Mem} {q : (Int32 × Mem)} (h : f_X11_starts x1 x2 M = some q) : Mt E yX11_starts cX11_starts 3 (some .boolean) 2 [.ref (ad E 50 0), .int x1, .int x2] M (some (.int q.1)) q.2 := by
  unfold f_X11_starts at h
  refine mt_intro (own := RX11) (lv0 := [(0, .ref (ad E 50 0)), (1, .int x1), (2, .int x2)]) (by decide) rfl rfl rfl (fun Y C R => ?_)
  refine g_iload_n C dX11_starts_0 rfl rfl ?_
  refine g_if_lt (tgt := 17) C dX11_starts_1 (by decide) h (fun h => ?_) (fun h => ?_)
  · refine g_aload_n C dX11_starts_17 rfl rfl ?_
    refine g_iconst (v := (5 : Int32)) C dX11_starts_18 (by decide) ?_
    obtain ⟨q1, hr1, h⟩ := Option.bind_eq_some_iff.mp h
    refine call_X11_86 C dX11_starts_19 (by decide) (c_X11_no E hr1) (by decide) rfl ?_
    obtain ⟨hz2, h⟩ := of_ite h
    exact g_zret C R dX11_starts_22 (fst_of h) (isB_of hz2) (snd_of h)
  · refine g_iload_n C dX11_starts_4 rfl rfl ?_
    refine g_aload_n C dX11_starts_5 rfl rfl ?_
    refine get_X11_248 C dX11_starts_6 (by decide) ?_
    refine g_icmp_gt (tgt := 17) C dX11_starts_9 (by decide) h (fun h => ?_) (fun h => ?_)
    · refine g_aload_n C dX11_starts_17 rfl rfl ?_
      refine g_iconst (v := (5 : Int32)) C dX11_starts_18 (by decide) ?_
      obtain ⟨q3, hr3, h⟩ := Option.bind_eq_some_iff.mp h
      refine call_X11_86 C dX11_starts_19 (by decide) (c_X11_no E hr3) (by decide) rfl ?_
      obtain ⟨hz4, h⟩ := of_ite h
      exact g_zret C R dX11_starts_22 (fst_of h) (isB_of hz4) (snd_of h)
    · refine g_iload_n C dX11_starts_12 rfl rfl ?_
      refine g_iload_n C dX11_starts_13 rfl rfl ?_
      refine g_icmp_le (tgt := 23) C dX11_starts_14 (by decide) h (fun h => ?_) (fun h => ?_)
      · refine g_aload_n C dX11_starts_23 rfl rfl ?_
        refine g_iload_n C dX11_starts_24 rfl rfl ?_
        refine put_X11_114 C dX11_starts_25 (by decide) ?_
        refine g_aload_n C dX11_starts_28 rfl rfl ?_
        refine g_iconst (v := (0 : Int32)) C dX11_starts_29 (by decide) ?_
        refine put_X11_248 C dX11_starts_30 (by decide) ?_
        refine g_aload_n C dX11_starts_33 rfl rfl ?_
        refine g_iconst (v := (0 : Int32)) C dX11_starts_34 (by decide) ?_
        refine put_X11_117 C dX11_starts_35 (by decide) ?_
        refine g_aload_n C dX11_starts_38 rfl rfl ?_
        refine g_iconst (v := (0 : Int32)) C dX11_starts_39 (by decide) ?_
        refine put_X11_229 C dX11_starts_40 (by decide) ?_
        refine g_aload_n C dX11_starts_43 rfl rfl ?_
        obtain ⟨M9, hr9, h⟩ := Option.bind_eq_some_iff.mp h
        refine call_X11_239 C dX11_starts_44 (by decide) (c_X11_next E hr9) (by decide) rfl ?_
        refine g_iconst (v := (1 : Int32)) C dX11_starts_47 (by decide) ?_
        exact g_zret C R dX11_starts_48 (fst_of h) (Or.inr rfl) (snd_of h)
      · refine g_aload_n C dX11_starts_17 rfl rfl ?_
        refine g_iconst (v := (5 : Int32)) C dX11_starts_18 (by decide) ?_
        obtain ⟨q10, hr10, h⟩ := Option.bind_eq_some_iff.mp h
        refine call_X11_86 C dX11_starts_19 (by decide) (c_X11_no E hr10) (by decide) rfl ?_
        obtain ⟨hz11, h⟩ := of_ite h
        exact g_zret C R dX11_starts_22 (fst_of h) (isB_of hz11) (snd_of h)
noncomputable def f_X11_isWell_24 (ps1 : Int32) (M : Mem) : Option (Int32 × Mem) :=
  let M2 := sR M 50 0 (upd (M.1 50 0) 11 ps1)
  if (M2.1 50 0 12) = 0 then
    some ((1 : Int32), M2)
  else
    (f_X11_no (10 : Int32) M2).bind fun q3 =>
    if q3.1 = 0 then
      some ((0 : Int32), q3.2)
    else
      some ((1 : Int32), q3.2)
noncomputable def f_X11_isWell (M : Mem) : Option (Int32 × Mem) :=
  let M1 := sR M 50 0 (upd (M.1 50 0) 10 (M.1 50 0 12))
  if (M1.1 50 0 12) = 0 then
    f_X11_isWell_24 (-1 : Int32) M1
  else
    f_X11_isWell_24 (M1.1 50 0 13) M1
set_option maxRecDepth 20000 in
set_option maxHeartbeats 2000000 in
theorem b_X11_isWell_24 {E : wEnv} {Y : YT} (C : Cx E Y cX11_isWell 1 RX11 1) {q : (Int32 × Mem)} (R : Rx E Y (some .boolean) (some (.int q.1)) q.2) {ps1 : Int32} {M : Mem} (h : f_X11_isWell_24 ps1 M = some q) : G E Y 1 M 24 [(0, .ref (ad E 50 0))] [.int ps1, .ref (ad E 50 0)] := by
  unfold f_X11_isWell_24 at h
  refine put_X11_32 C dX11_isWell_24 (by decide) ?_
  refine g_aload_n C dX11_isWell_27 rfl rfl ?_
  refine get_X11_229 C dX11_isWell_28 (by decide) ?_
  refine g_if_eq (tgt := 43) C dX11_isWell_31 (by decide) h (fun h => ?_) (fun h => ?_)
  · refine g_iconst (v := (1 : Int32)) C dX11_isWell_43 (by decide) ?_
    refine g_goto (tgt := 48) C dX11_isWell_44 (by decide) ?_
    exact g_zret C R dX11_isWell_48 (fst_of h) (Or.inr rfl) (snd_of h)
  · refine g_aload_n C dX11_isWell_34 rfl rfl ?_
    refine g_bipush (v := (10 : Int32)) C dX11_isWell_35 (by decide) ?_
    obtain ⟨q3, hr3, h⟩ := Option.bind_eq_some_iff.mp h
    refine call_X11_86 C dX11_isWell_37 (by decide) (c_X11_no E hr3) (by decide) rfl ?_
    refine g_if_eq (tgt := 47) C dX11_isWell_40 (by decide) h (fun h => ?_) (fun h => ?_)
    · refine g_iconst (v := (0 : Int32)) C dX11_isWell_47 (by decide) ?_
      exact g_zret C R dX11_isWell_48 (fst_of h) (Or.inl rfl) (snd_of h)
    · refine g_iconst (v := (1 : Int32)) C dX11_isWell_43 (by decide) ?_
      refine g_goto (tgt := 48) C dX11_isWell_44 (by decide) ?_
      exact g_zret C R dX11_isWell_48 (fst_of h) (Or.inr rfl) (snd_of h)
set_option maxRecDepth 20000 in
set_option maxHeartbeats 2000000 in
theorem c_X11_isWell (E : wEnv) {M : Mem} {q : (Int32 × Mem)} (h : f_X11_isWell M = some q) : Mt E yX11_isWell cX11_isWell 1 (some .boolean) 1 [.ref (ad E 50 0)] M (some (.int q.1)) q.2 := by
  unfold f_X11_isWell at h
  refine mt_intro (own := RX11) (lv0 := [(0, .ref (ad E 50 0))]) (by decide) rfl rfl rfl (fun Y C R => ?_)
  refine g_aload_n C dX11_isWell_0 rfl rfl ?_
  refine g_aload_n C dX11_isWell_1 rfl rfl ?_
  refine get_X11_229 C dX11_isWell_2 (by decide) ?_
  refine put_X11_28 C dX11_isWell_5 (by decide) ?_
  refine g_aload_n C dX11_isWell_8 rfl rfl ?_
  refine g_aload_n C dX11_isWell_9 rfl rfl ?_
  refine get_X11_229 C dX11_isWell_10 (by decide) ?_
  refine g_if_ne (tgt := 20) C dX11_isWell_13 (by decide) h (fun h => ?_) (fun h => ?_)
  · refine g_aload_n C dX11_isWell_20 rfl rfl ?_
    refine get_X11_232 C dX11_isWell_21 (by decide) ?_
    exact g_sub (b_X11_isWell_24 C R h) ⟨rfl, trivial⟩
  · refine g_iconst (v := (-1 : Int32)) C dX11_isWell_16 (by decide) ?_
    refine g_goto (tgt := 24) C dX11_isWell_17 (by decide) ?_
    exact g_sub (b_X11_isWell_24 C R h) ⟨rfl, trivial⟩
noncomputable def f_X11_fault (x1 : Int32) (M : Mem) : Option (Int32 × Mem) :=
  let M1 := sR M 50 0 (upd (M.1 50 0) 1 (0 : Int32))
  if x1 = 0 then
    some ((M1.1 50 0 10), M1)
  else
    if x1 = (1 : Int32) then
      some ((M1.1 50 0 11), M1)
    else
      some ((-1 : Int32), M1)
set_option maxRecDepth 20000 in
set_option maxHeartbeats 2000000 in
theorem c_X11_fault (E : wEnv) {x1 : Int32} {M : Mem} {q : (Int32 × Mem)} (h : f_X11_fault x1 M = some q) : Mt E yX11_fault cX11_fault 2 (some .int) 0 [.ref (ad E 50 0), .int x1] M (some (.int q.1)) q.2 := by
  unfold f_X11_fault at h
  refine mt_intro (own := RX11) (lv0 := [(0, .ref (ad E 50 0)), (1, .int x1)]) (by decide) rfl rfl rfl (fun Y C R => ?_)
  refine g_aload_n C dX11_fault_0 rfl rfl ?_
  refine g_iconst (v := (0 : Int32)) C dX11_fault_1 (by decide) ?_
  refine put_X11_71 C dX11_fault_2 (by decide) ?_
  refine g_iload_n C dX11_fault_5 rfl rfl ?_
  refine g_if_ne (tgt := 16) C dX11_fault_6 (by decide) h (fun h => ?_) (fun h => ?_)
  · refine g_iload_n C dX11_fault_16 rfl rfl ?_
    refine g_iconst (v := (1 : Int32)) C dX11_fault_17 (by decide) ?_
    refine g_icmp_ne (tgt := 28) C dX11_fault_18 (by decide) h (fun h => ?_) (fun h => ?_)
    · refine g_iconst (v := (-1 : Int32)) C dX11_fault_28 (by decide) ?_
      exact g_iret C R dX11_fault_29 (fst_of h) (snd_of h)
    · refine g_aload_n C dX11_fault_21 rfl rfl ?_
      refine get_X11_32 C dX11_fault_22 (by decide) ?_
      refine g_goto (tgt := 29) C dX11_fault_25 (by decide) ?_
      exact g_iret C R dX11_fault_29 (fst_of h) (snd_of h)
  · refine g_aload_n C dX11_fault_9 rfl rfl ?_
    refine get_X11_28 C dX11_fault_10 (by decide) ?_
    refine g_goto (tgt := 29) C dX11_fault_13 (by decide) ?_
    exact g_iret C R dX11_fault_29 (fst_of h) (snd_of h)
noncomputable def f_X11_fromOf (x0 : Int32) : Option Int32 :=
  if x0 = 0 then
    some (0 : Int32)
  else
    if x0 = (1 : Int32) then
      some (10 : Int32)
    else
      if x0 = (2 : Int32) then
        some (16 : Int32)
      else
        some (22 : Int32)
set_option maxRecDepth 20000 in
set_option maxHeartbeats 2000000 in
theorem c_X11_fromOf (E : wEnv) {x0 : Int32} {M : Mem} {q : Int32} (h : f_X11_fromOf x0 = some q) : Mt E yX11_fromOf cX11_fromOf 1 (some .int) 0 [.int x0] M (some (.int q)) M := by
  unfold f_X11_fromOf at h
  refine mt_intro (own := RX11) (lv0 := [(0, .int x0)]) (by decide) rfl rfl rfl (fun Y C R => ?_)
  refine g_iload_n C dX11_fromOf_0 rfl rfl ?_
  refine g_if_ne (tgt := 8) C dX11_fromOf_1 (by decide) h (fun h => ?_) (fun h => ?_)
  · refine g_iload_n C dX11_fromOf_8 rfl rfl ?_
    refine g_iconst (v := (1 : Int32)) C dX11_fromOf_9 (by decide) ?_
    refine g_icmp_ne (tgt := 18) C dX11_fromOf_10 (by decide) h (fun h => ?_) (fun h => ?_)
    · refine g_iload_n C dX11_fromOf_18 rfl rfl ?_
      refine g_iconst (v := (2 : Int32)) C dX11_fromOf_19 (by decide) ?_
      refine g_icmp_ne (tgt := 28) C dX11_fromOf_20 (by decide) h (fun h => ?_) (fun h => ?_)
      · refine g_bipush (v := (22 : Int32)) C dX11_fromOf_28 (by decide) ?_
        exact g_iret C R dX11_fromOf_30 (Option.some.inj h) rfl
      · refine g_bipush (v := (16 : Int32)) C dX11_fromOf_23 (by decide) ?_
        refine g_goto (tgt := 30) C dX11_fromOf_25 (by decide) ?_
        exact g_iret C R dX11_fromOf_30 (Option.some.inj h) rfl
    · refine g_bipush (v := (10 : Int32)) C dX11_fromOf_13 (by decide) ?_
      refine g_goto (tgt := 30) C dX11_fromOf_15 (by decide) ?_
      exact g_iret C R dX11_fromOf_30 (Option.some.inj h) rfl
  · refine g_iconst (v := (0 : Int32)) C dX11_fromOf_4 (by decide) ?_
    refine g_goto (tgt := 30) C dX11_fromOf_5 (by decide) ?_
    exact g_iret C R dX11_fromOf_30 (Option.some.inj h) rfl
noncomputable def f_X11_named_2 (x1 : Int32) (x2 : Int32) (M : Mem) : Nat → Int32 → Option Int32
  | 0, _ => none
  | n + 1, x3 =>
  if inb (((475 : Int32) * x1) + x2) 2375 = true then
   if x3 < (M.1 55 0 ((((475 : Int32) * x1) + x2).toNatClampNeg)) then
     (f_X11_fromOf x2).bind fun r2 =>
     if inb ((((26 : Int32) * x1) + r2) + x3) 130 = true then
      if (lg_cmp (M.2 57 0 (((((26 : Int32) * x1) + r2) + x3).toNatClampNeg)) (M.2 50 0 19)) = 0 then
        some x3
      else
        f_X11_named_2 x1 x2 M n (x3 + (1 : Int32))
     else none
   else
     some (-1 : Int32)
  else none
noncomputable def f_X11_named (x1 : Int32) (x2 : Int32) (M : Mem) : Option Int32 :=
  f_X11_named_2 x1 x2 M FU (0 : Int32)
set_option maxRecDepth 20000 in
set_option maxHeartbeats 2000000 in
theorem b_X11_named_2 {E : wEnv} {Y : YT} (C : Cx E Y cX11_named 4 RX11 1) {q : Int32} {M : Mem} (R : Rx E Y (some .int) (some (.int q)) M) {x1 : Int32} {x2 : Int32} (n : Nat) : ∀ {x3 : Int32} (_ : f_X11_named_2 x1 x2 M n x3 = some q), G E Y 4 M 2 [(0, .ref (ad E 50 0)), (1, .int x1), (2, .int x2), (3, .int x3)] [] := by
  induction n with
  | zero =>
    intro x3 h
    cases (show none = some q from h)
  | succ n ih =>
    intro x3 h
    rw [f_X11_named_2] at h
    refine g_iload_n C dX11_named_2 rfl rfl ?_
    refine g_aload_n C dX11_named_3 rfl rfl ?_
    refine get_X11_35 C dX11_named_4 (by decide) ?_
    refine g_sipush (v := (475 : Int32)) C dX11_named_7 (by decide) ?_
    refine g_iload_n C dX11_named_10 rfl rfl ?_
    refine g_imul C dX11_named_11 ?_
    refine g_iload_n C dX11_named_12 rfl rfl ?_
    refine g_iadd C dX11_named_13 ?_
    obtain ⟨hb1, h⟩ := of_ite h
    refine ld_55 (j := _) C dX11_named_14 (by decide) hb1 rfl ?_
    refine g_icmp_ge (tgt := 50) C dX11_named_15 (by decide) h (fun h => ?_) (fun h => ?_)
    · refine g_iconst (v := (-1 : Int32)) C dX11_named_50 (by decide) ?_
      exact g_iret C R dX11_named_51 (Option.some.inj h) rfl
    · refine g_aload_n C dX11_named_18 rfl rfl ?_
      refine get_X11_41 C dX11_named_19 (by decide) ?_
      refine g_bipush (v := (26 : Int32)) C dX11_named_22 (by decide) ?_
      refine g_iload_n C dX11_named_24 rfl rfl ?_
      refine g_imul C dX11_named_25 ?_
      refine g_iload_n C dX11_named_26 rfl rfl ?_
      obtain ⟨r2, hr2, h⟩ := Option.bind_eq_some_iff.mp h
      refine call_X11_255 C dX11_named_27 (c_X11_fromOf E hr2) (by decide) rfl ?_
      refine g_iadd C dX11_named_30 ?_
      refine g_iload_n C dX11_named_31 rfl rfl ?_
      refine g_iadd C dX11_named_32 ?_
      obtain ⟨hb3, h⟩ := of_ite h
      refine ld_57 (j := _) C dX11_named_33 (by decide) hb3 rfl ?_
      refine g_aload_n C dX11_named_34 rfl rfl ?_
      refine get_X11_132 C dX11_named_35 (by decide) ?_
      refine g_lcmp C dX11_named_38 ?_
      refine g_if_ne (tgt := 44) C dX11_named_39 (by decide) h (fun h => ?_) (fun h => ?_)
      · refine g_iinc (w := (1 : Int32)) C dX11_named_44 rfl (by decide) rfl ?_
        refine g_goto (tgt := 2) C dX11_named_47 (by decide) ?_
        exact g_sub (ih h) ⟨rfl, rfl, rfl, rfl, trivial⟩
      · refine g_iload_n C dX11_named_42 rfl rfl ?_
        exact g_iret C R dX11_named_43 (Option.some.inj h) rfl
set_option maxRecDepth 20000 in
set_option maxHeartbeats 2000000 in
theorem c_X11_named (E : wEnv) {x1 : Int32} {x2 : Int32} {M : Mem} {q : Int32} (h : f_X11_named x1 x2 M = some q) : Mt E yX11_named cX11_named 4 (some .int) 1 [.ref (ad E 50 0), .int x1, .int x2] M (some (.int q)) M := by
  unfold f_X11_named at h
  refine mt_intro (own := RX11) (lv0 := [(0, .ref (ad E 50 0)), (1, .int x1), (2, .int x2)]) (by decide) rfl rfl rfl (fun Y C R => ?_)
  refine g_iconst (v := (0 : Int32)) C dX11_named_0 (by decide) ?_
  refine g_istore_n C dX11_named_1 rfl rfl ?_
  exact g_sub (b_X11_named_2 C R _ h) ⟨rfl, rfl, rfl, rfl, trivial⟩
noncomputable def f_X11_readNew_102 (x1 : Int32) (x3 : Int32) (M : Mem) : Option (Int32 × Mem) :=
  if 0 < (M.1 50 0 12) then
    some ((0 : Int32), M)
  else
    (f_X11_fromOf x1).bind fun r5 =>
    if inb (((104 : Int32) + r5) + x3) 130 = true then
     let M7 := sL M 57 0 (vp_updL (M.2 57 0) ((((104 : Int32) + r5) + x3).toNatClampNeg) (M.2 50 0 19))
     (f_X11_next M7).bind fun M8 =>
     some (x3, M8)
    else none
noncomputable def f_X11_readNew_93 (x1 : Int32) (x3 : Int32) (M : Mem) : Option (Int32 × Mem) :=
  (f_X11_fail (3 : Int32) (M.1 50 0 15) M).bind fun M10 =>
  f_X11_readNew_102 x1 x3 M10
noncomputable def f_X11_readNew_50 (x1 : Int32) (x3 : Int32) (M : Mem) : Option (Int32 × Mem) :=
  if (M.1 50 0 12) = 0 then
    (f_X11_named (4 : Int32) (0 : Int32) M).bind fun r9 =>
    if r9 < 0 then
      (f_X11_named (4 : Int32) (1 : Int32) M).bind fun r11 =>
      if r11 < 0 then
        (f_X11_named (4 : Int32) (2 : Int32) M).bind fun r12 =>
        if r12 < 0 then
          (f_X11_named (4 : Int32) (3 : Int32) M).bind fun r13 =>
          if r13 < 0 then
            f_X11_readNew_102 x1 x3 M
          else
            f_X11_readNew_93 x1 x3 M
        else
          f_X11_readNew_93 x1 x3 M
      else
        f_X11_readNew_93 x1 x3 M
    else
      f_X11_readNew_93 x1 x3 M
  else
    f_X11_readNew_102 x1 x3 M
noncomputable def f_X11_readNew_26 (x1 : Int32) (x3 : Int32) (M : Mem) : Option (Int32 × Mem) :=
  if 0 < (M.1 50 0 12) then
    some ((0 : Int32), M)
  else
    (f_X11_next M).bind fun M3 =>
    (f_X11_isName M3).bind fun r4 =>
    if r4 = 0 then
      (f_X11_wrong M3).bind fun M14 =>
      f_X11_readNew_50 x1 x3 M14
    else
      f_X11_readNew_50 x1 x3 M3
noncomputable def f_X11_readNew (x1 : Int32) (x2 : Int32) (M : Mem) : Option (Int32 × Mem) :=
  if inb ((1900 : Int32) + x1) 2375 = true then
   let x3_2 := (M.1 55 0 (((1900 : Int32) + x1).toNatClampNeg))
   if x3_2 = x2 then
     (f_X11_fail (6 : Int32) (M.1 50 0 15) M).bind fun M15 =>
     f_X11_readNew_26 x1 x3_2 M15
   else
     f_X11_readNew_26 x1 x3_2 M
  else none
set_option maxRecDepth 20000 in
set_option maxHeartbeats 2000000 in
theorem b_X11_readNew_102 {E : wEnv} {Y : YT} (C : Cx E Y cX11_readNew 4 RX11 5) {q : (Int32 × Mem)} (R : Rx E Y (some .int) (some (.int q.1)) q.2) {x1 : Int32} {x3 : Int32} {M : Mem} (h : f_X11_readNew_102 x1 x3 M = some q) : G E Y 4 M 102 [(0, .ref (ad E 50 0)), (1, .int x1), (3, .int x3)] [] := by
  unfold f_X11_readNew_102 at h
  refine g_aload_n C dX11_readNew_102 rfl rfl ?_
  refine get_X11_229 C dX11_readNew_103 (by decide) ?_
  refine g_if_le (tgt := 111) C dX11_readNew_106 (by decide) h (fun h => ?_) (fun h => ?_)
  · refine g_aload_n C dX11_readNew_111 rfl rfl ?_
    refine get_X11_41 C dX11_readNew_112 (by decide) ?_
    refine g_bipush (v := (104 : Int32)) C dX11_readNew_115 (by decide) ?_
    refine g_iload_n C dX11_readNew_117 rfl rfl ?_
    obtain ⟨r5, hr5, h⟩ := Option.bind_eq_some_iff.mp h
    refine call_X11_255 C dX11_readNew_118 (c_X11_fromOf E hr5) (by decide) rfl ?_
    refine g_iadd C dX11_readNew_121 ?_
    refine g_iload_n C dX11_readNew_122 rfl rfl ?_
    refine g_iadd C dX11_readNew_123 ?_
    refine g_aload_n C dX11_readNew_124 rfl rfl ?_
    refine get_X11_132 C dX11_readNew_125 (by decide) ?_
    obtain ⟨hb6, h⟩ := of_ite h
    refine st_57 (j := _) C dX11_readNew_128 (by decide) hb6 rfl ?_
    refine g_aload_n C dX11_readNew_129 rfl rfl ?_
    obtain ⟨M8, hr8, h⟩ := Option.bind_eq_some_iff.mp h
    refine call_X11_239 C dX11_readNew_130 (by decide) (c_X11_next E hr8) (by decide) rfl ?_
    refine g_iload_n C dX11_readNew_133 rfl rfl ?_
    exact g_iret C R dX11_readNew_134 (fst_of h) (snd_of h)
  · refine g_iconst (v := (0 : Int32)) C dX11_readNew_109 (by decide) ?_
    exact g_iret C R dX11_readNew_110 (fst_of h) (snd_of h)
set_option maxRecDepth 20000 in
set_option maxHeartbeats 2000000 in
theorem b_X11_readNew_93 {E : wEnv} {Y : YT} (C : Cx E Y cX11_readNew 4 RX11 5) {q : (Int32 × Mem)} (R : Rx E Y (some .int) (some (.int q.1)) q.2) {x1 : Int32} {x3 : Int32} {M : Mem} (h : f_X11_readNew_93 x1 x3 M = some q) : G E Y 4 M 93 [(0, .ref (ad E 50 0)), (1, .int x1), (3, .int x3)] [] := by
  unfold f_X11_readNew_93 at h
  refine g_aload_n C dX11_readNew_93 rfl rfl ?_
  refine g_iconst (v := (3 : Int32)) C dX11_readNew_94 (by decide) ?_
  refine g_aload_n C dX11_readNew_95 rfl rfl ?_
  refine get_X11_120 C dX11_readNew_96 (by decide) ?_
  obtain ⟨M10, hr10, h⟩ := Option.bind_eq_some_iff.mp h
  refine call_X11_235 C dX11_readNew_99 (by decide) (c_X11_fail E hr10) (by decide) rfl ?_
  exact g_sub (b_X11_readNew_102 C R h) ⟨rfl, rfl, rfl, trivial⟩
set_option maxRecDepth 20000 in
set_option maxHeartbeats 2000000 in
theorem b_X11_readNew_50 {E : wEnv} {Y : YT} (C : Cx E Y cX11_readNew 4 RX11 5) {q : (Int32 × Mem)} (R : Rx E Y (some .int) (some (.int q.1)) q.2) {x1 : Int32} {x3 : Int32} {M : Mem} (h : f_X11_readNew_50 x1 x3 M = some q) : G E Y 4 M 50 [(0, .ref (ad E 50 0)), (1, .int x1), (3, .int x3)] [] := by
  unfold f_X11_readNew_50 at h
  refine g_aload_n C dX11_readNew_50 rfl rfl ?_
  refine get_X11_229 C dX11_readNew_51 (by decide) ?_
  refine g_if_ne (tgt := 102) C dX11_readNew_54 (by decide) h (fun h => ?_) (fun h => ?_)
  · exact g_sub (b_X11_readNew_102 C R h) ⟨rfl, rfl, rfl, trivial⟩
  · refine g_aload_n C dX11_readNew_57 rfl rfl ?_
    refine g_iconst (v := (4 : Int32)) C dX11_readNew_58 (by decide) ?_
    refine g_iconst (v := (0 : Int32)) C dX11_readNew_59 (by decide) ?_
    obtain ⟨r9, hr9, h⟩ := Option.bind_eq_some_iff.mp h
    refine call_X11_261 C dX11_readNew_60 (by decide) (c_X11_named E hr9) (by decide) rfl ?_
    refine g_if_ge (tgt := 93) C dX11_readNew_63 (by decide) h (fun h => ?_) (fun h => ?_)
    · exact g_sub (b_X11_readNew_93 C R h) ⟨rfl, rfl, rfl, trivial⟩
    · refine g_aload_n C dX11_readNew_66 rfl rfl ?_
      refine g_iconst (v := (4 : Int32)) C dX11_readNew_67 (by decide) ?_
      refine g_iconst (v := (1 : Int32)) C dX11_readNew_68 (by decide) ?_
      obtain ⟨r11, hr11, h⟩ := Option.bind_eq_some_iff.mp h
      refine call_X11_261 C dX11_readNew_69 (by decide) (c_X11_named E hr11) (by decide) rfl ?_
      refine g_if_ge (tgt := 93) C dX11_readNew_72 (by decide) h (fun h => ?_) (fun h => ?_)
      · exact g_sub (b_X11_readNew_93 C R h) ⟨rfl, rfl, rfl, trivial⟩
      · refine g_aload_n C dX11_readNew_75 rfl rfl ?_
        refine g_iconst (v := (4 : Int32)) C dX11_readNew_76 (by decide) ?_
        refine g_iconst (v := (2 : Int32)) C dX11_readNew_77 (by decide) ?_
        obtain ⟨r12, hr12, h⟩ := Option.bind_eq_some_iff.mp h
        refine call_X11_261 C dX11_readNew_78 (by decide) (c_X11_named E hr12) (by decide) rfl ?_
        refine g_if_ge (tgt := 93) C dX11_readNew_81 (by decide) h (fun h => ?_) (fun h => ?_)
        · exact g_sub (b_X11_readNew_93 C R h) ⟨rfl, rfl, rfl, trivial⟩
        · refine g_aload_n C dX11_readNew_84 rfl rfl ?_
          refine g_iconst (v := (4 : Int32)) C dX11_readNew_85 (by decide) ?_
          refine g_iconst (v := (3 : Int32)) C dX11_readNew_86 (by decide) ?_
          obtain ⟨r13, hr13, h⟩ := Option.bind_eq_some_iff.mp h
          refine call_X11_261 C dX11_readNew_87 (by decide) (c_X11_named E hr13) (by decide) rfl ?_
          refine g_if_lt (tgt := 102) C dX11_readNew_90 (by decide) h (fun h => ?_) (fun h => ?_)
          · exact g_sub (b_X11_readNew_102 C R h) ⟨rfl, rfl, rfl, trivial⟩
          · exact g_sub (b_X11_readNew_93 C R h) ⟨rfl, rfl, rfl, trivial⟩
set_option maxRecDepth 20000 in
set_option maxHeartbeats 2000000 in
theorem b_X11_readNew_26 {E : wEnv} {Y : YT} (C : Cx E Y cX11_readNew 4 RX11 5) {q : (Int32 × Mem)} (R : Rx E Y (some .int) (some (.int q.1)) q.2) {x1 : Int32} {x3 : Int32} {M : Mem} (h : f_X11_readNew_26 x1 x3 M = some q) : G E Y 4 M 26 [(0, .ref (ad E 50 0)), (1, .int x1), (3, .int x3)] [] := by
  unfold f_X11_readNew_26 at h
  refine g_aload_n C dX11_readNew_26 rfl rfl ?_
  refine get_X11_229 C dX11_readNew_27 (by decide) ?_
  refine g_if_le (tgt := 35) C dX11_readNew_30 (by decide) h (fun h => ?_) (fun h => ?_)
  · refine g_aload_n C dX11_readNew_35 rfl rfl ?_
    obtain ⟨M3, hr3, h⟩ := Option.bind_eq_some_iff.mp h
    refine call_X11_239 C dX11_readNew_36 (by decide) (c_X11_next E hr3) (by decide) rfl ?_
    refine g_aload_n C dX11_readNew_39 rfl rfl ?_
    obtain ⟨r4, hr4, h⟩ := Option.bind_eq_some_iff.mp h
    refine call_X11_258 C dX11_readNew_40 (by decide) (c_X11_isName E hr4) (by decide) rfl ?_
    refine g_if_ne (tgt := 50) C dX11_readNew_43 (by decide) h (fun h => ?_) (fun h => ?_)
    · exact g_sub (b_X11_readNew_50 C R h) ⟨rfl, rfl, rfl, trivial⟩
    · refine g_aload_n C dX11_readNew_46 rfl rfl ?_
      obtain ⟨M14, hr14, h⟩ := Option.bind_eq_some_iff.mp h
      refine call_X11_242 C dX11_readNew_47 (by decide) (c_X11_wrong E hr14) (by decide) rfl ?_
      exact g_sub (b_X11_readNew_50 C R h) ⟨rfl, rfl, rfl, trivial⟩
  · refine g_iconst (v := (0 : Int32)) C dX11_readNew_33 (by decide) ?_
    exact g_iret C R dX11_readNew_34 (fst_of h) (snd_of h)
set_option maxRecDepth 20000 in
set_option maxHeartbeats 2000000 in
theorem c_X11_readNew (E : wEnv) {x1 : Int32} {x2 : Int32} {M : Mem} {q : (Int32 × Mem)} (h : f_X11_readNew x1 x2 M = some q) : Mt E yX11_readNew cX11_readNew 4 (some .int) 5 [.ref (ad E 50 0), .int x1, .int x2] M (some (.int q.1)) q.2 := by
  unfold f_X11_readNew at h
  refine mt_intro (own := RX11) (lv0 := [(0, .ref (ad E 50 0)), (1, .int x1), (2, .int x2)]) (by decide) rfl rfl rfl (fun Y C R => ?_)
  refine g_aload_n C dX11_readNew_0 rfl rfl ?_
  refine get_X11_35 C dX11_readNew_1 (by decide) ?_
  refine g_sipush (v := (1900 : Int32)) C dX11_readNew_4 (by decide) ?_
  refine g_iload_n C dX11_readNew_7 rfl rfl ?_
  refine g_iadd C dX11_readNew_8 ?_
  obtain ⟨hb1, h⟩ := of_ite h
  refine ld_55 (j := _) C dX11_readNew_9 (by decide) hb1 rfl ?_
  refine g_istore_n C dX11_readNew_10 rfl rfl ?_
  refine g_iload_n C dX11_readNew_11 rfl rfl ?_
  refine g_iload_n C dX11_readNew_12 rfl rfl ?_
  refine g_icmp_ne (tgt := 26) C dX11_readNew_13 (by decide) h (fun h => ?_) (fun h => ?_)
  · exact g_sub (b_X11_readNew_26 C R h) ⟨rfl, rfl, rfl, trivial⟩
  · refine g_aload_n C dX11_readNew_16 rfl rfl ?_
    refine g_bipush (v := (6 : Int32)) C dX11_readNew_17 (by decide) ?_
    refine g_aload_n C dX11_readNew_19 rfl rfl ?_
    refine get_X11_120 C dX11_readNew_20 (by decide) ?_
    obtain ⟨M15, hr15, h⟩ := Option.bind_eq_some_iff.mp h
    refine call_X11_235 C dX11_readNew_23 (by decide) (c_X11_fail E hr15) (by decide) rfl ?_
    exact g_sub (b_X11_readNew_26 C R h) ⟨rfl, rfl, rfl, trivial⟩
noncomputable def f_X11_told_18 (x1 : Int32) (x2 : Int32) (M : Mem) : Option (Int32 × Mem) :=
  if 0 < (M.1 50 0 12) then
    some ((0 : Int32), M)
  else
    (f_X11_named x1 x2 M).bind fun r1 =>
    if r1 < 0 then
      (f_X11_fail (3 : Int32) (M.1 50 0 15) M).bind fun M2 =>
      some ((jmax (0 : Int32) r1), M2)
    else
      some ((jmax (0 : Int32) r1), M)
noncomputable def f_X11_told (x1 : Int32) (x2 : Int32) (M : Mem) : Option (Int32 × Mem) :=
  if (M.1 50 0 12) = 0 then
    (f_X11_isName M).bind fun r3 =>
    if r3 = 0 then
      (f_X11_wrong M).bind fun M4 =>
      f_X11_told_18 x1 x2 M4
    else
      f_X11_told_18 x1 x2 M
  else
    f_X11_told_18 x1 x2 M
set_option maxRecDepth 20000 in
set_option maxHeartbeats 2000000 in
theorem b_X11_told_18 {E : wEnv} {Y : YT} (C : Cx E Y cX11_told 4 RX11 5) {q : (Int32 × Mem)} (R : Rx E Y (some .int) (some (.int q.1)) q.2) {x1 : Int32} {x2 : Int32} {M : Mem} (h : f_X11_told_18 x1 x2 M = some q) : G E Y 4 M 18 [(0, .ref (ad E 50 0)), (1, .int x1), (2, .int x2)] [] := by
  unfold f_X11_told_18 at h
  refine g_aload_n C dX11_told_18 rfl rfl ?_
  refine get_X11_229 C dX11_told_19 (by decide) ?_
  refine g_if_le (tgt := 27) C dX11_told_22 (by decide) h (fun h => ?_) (fun h => ?_)
  · refine g_aload_n C dX11_told_27 rfl rfl ?_
    refine g_iload_n C dX11_told_28 rfl rfl ?_
    refine g_iload_n C dX11_told_29 rfl rfl ?_
    obtain ⟨r1, hr1, h⟩ := Option.bind_eq_some_iff.mp h
    refine call_X11_261 C dX11_told_30 (by decide) (c_X11_named E hr1) (by decide) rfl ?_
    refine g_istore_n C dX11_told_33 rfl rfl ?_
    refine g_iload_n C dX11_told_34 rfl rfl ?_
    refine g_if_ge (tgt := 47) C dX11_told_35 (by decide) h (fun h => ?_) (fun h => ?_)
    · refine g_iconst (v := (0 : Int32)) C dX11_told_47 (by decide) ?_
      refine g_iload_n C dX11_told_48 rfl rfl ?_
      refine call_X11_264 C dX11_told_49 (by decide) rfl ?_
      exact g_iret C R dX11_told_52 (fst_of h) (snd_of h)
    · refine g_aload_n C dX11_told_38 rfl rfl ?_
      refine g_iconst (v := (3 : Int32)) C dX11_told_39 (by decide) ?_
      refine g_aload_n C dX11_told_40 rfl rfl ?_
      refine get_X11_120 C dX11_told_41 (by decide) ?_
      obtain ⟨M2, hr2, h⟩ := Option.bind_eq_some_iff.mp h
      refine call_X11_235 C dX11_told_44 (by decide) (c_X11_fail E hr2) (by decide) rfl ?_
      refine g_iconst (v := (0 : Int32)) C dX11_told_47 (by decide) ?_
      refine g_iload_n C dX11_told_48 rfl rfl ?_
      refine call_X11_264 C dX11_told_49 (by decide) rfl ?_
      exact g_iret C R dX11_told_52 (fst_of h) (snd_of h)
  · refine g_iconst (v := (0 : Int32)) C dX11_told_25 (by decide) ?_
    exact g_iret C R dX11_told_26 (fst_of h) (snd_of h)
set_option maxRecDepth 20000 in
set_option maxHeartbeats 2000000 in
theorem c_X11_told (E : wEnv) {x1 : Int32} {x2 : Int32} {M : Mem} {q : (Int32 × Mem)} (h : f_X11_told x1 x2 M = some q) : Mt E yX11_told cX11_told 4 (some .int) 5 [.ref (ad E 50 0), .int x1, .int x2] M (some (.int q.1)) q.2 := by
  unfold f_X11_told at h
  refine mt_intro (own := RX11) (lv0 := [(0, .ref (ad E 50 0)), (1, .int x1), (2, .int x2)]) (by decide) rfl rfl rfl (fun Y C R => ?_)
  refine g_aload_n C dX11_told_0 rfl rfl ?_
  refine get_X11_229 C dX11_told_1 (by decide) ?_
  refine g_if_ne (tgt := 18) C dX11_told_4 (by decide) h (fun h => ?_) (fun h => ?_)
  · exact g_sub (b_X11_told_18 C R h) ⟨rfl, rfl, rfl, trivial⟩
  · refine g_aload_n C dX11_told_7 rfl rfl ?_
    obtain ⟨r3, hr3, h⟩ := Option.bind_eq_some_iff.mp h
    refine call_X11_258 C dX11_told_8 (by decide) (c_X11_isName E hr3) (by decide) rfl ?_
    refine g_if_ne (tgt := 18) C dX11_told_11 (by decide) h (fun h => ?_) (fun h => ?_)
    · exact g_sub (b_X11_told_18 C R h) ⟨rfl, rfl, rfl, trivial⟩
    · refine g_aload_n C dX11_told_14 rfl rfl ?_
      obtain ⟨M4, hr4, h⟩ := Option.bind_eq_some_iff.mp h
      refine call_X11_242 C dX11_told_15 (by decide) (c_X11_wrong E hr4) (by decide) rfl ?_
      exact g_sub (b_X11_told_18 C R h) ⟨rfl, rfl, rfl, trivial⟩
noncomputable def f_X11_readTold (x1 : Int32) (x2 : Int32) (M : Mem) : Option (Int32 × Mem) :=
  (f_X11_told x1 x2 M).bind fun q1 =>
  (f_X11_must (1 : Int32) q1.2).bind fun M2 =>
  some (q1.1, M2)
set_option maxRecDepth 20000 in
set_option maxHeartbeats 2000000 in
theorem c_X11_readTold (E : wEnv) {x1 : Int32} {x2 : Int32} {M : Mem} {q : (Int32 × Mem)} (h : f_X11_readTold x1 x2 M = some q) : Mt E yX11_readTold cX11_readTold 4 (some .int) 6 [.ref (ad E 50 0), .int x1, .int x2] M (some (.int q.1)) q.2 := by
  unfold f_X11_readTold at h
  refine mt_intro (own := RX11) (lv0 := [(0, .ref (ad E 50 0)), (1, .int x1), (2, .int x2)]) (by decide) rfl rfl rfl (fun Y C R => ?_)
  refine g_aload_n C dX11_readTold_0 rfl rfl ?_
  refine g_iload_n C dX11_readTold_1 rfl rfl ?_
  refine g_iload_n C dX11_readTold_2 rfl rfl ?_
  obtain ⟨q1, hr1, h⟩ := Option.bind_eq_some_iff.mp h
  refine call_X11_267 C dX11_readTold_3 (by decide) (c_X11_told E hr1) (by decide) rfl ?_
  refine g_istore_n C dX11_readTold_6 rfl rfl ?_
  refine g_aload_n C dX11_readTold_7 rfl rfl ?_
  refine g_iconst (v := (1 : Int32)) C dX11_readTold_8 (by decide) ?_
  obtain ⟨M2, hr2, h⟩ := Option.bind_eq_some_iff.mp h
  refine call_X11_270 C dX11_readTold_9 (by decide) (c_X11_must E hr2) (by decide) rfl ?_
  refine g_iload_n C dX11_readTold_12 rfl rfl ?_
  exact g_iret C R dX11_readTold_13 (fst_of h) (snd_of h)
noncomputable def f_X11_readJuror_112 (x1 : Int32) (M : Mem) : Option Mem :=
  if 0 < (M.1 50 0 12) then
    some M
  else
    if inb ((1912 : Int32) + x1) 2375 = true then
     if inb ((1942 : Int32) + x1) 2375 = true then
      let M4 := sR M 55 0 (upd (M.1 55 0) (((1942 : Int32) + x1).toNatClampNeg) (M.1 55 0 (((1912 : Int32) + x1).toNatClampNeg)))
      let M5 := sR M4 55 0 (upd (M4.1 55 0) 1900 ((M4.1 55 0 1900) + (1 : Int32)))
      some M5
     else none
    else none
noncomputable def f_X11_readJuror_77 (x1 : Int32) (M : Mem) : Option Mem :=
  if (M.1 50 0 12) = 0 then
    (f_X11_isPrice M).bind fun r6 =>
    if r6 = 0 then
      f_X11_readJuror_112 x1 M
    else
      (f_X11_next M).bind fun M7 =>
      (f_X11_count (0 : Int32) (99 : Int32) M7).bind fun q8 =>
      if inb ((1932 : Int32) + x1) 2375 = true then
       let M10 := sR q8.2 55 0 (upd (q8.2.1 55 0) (((1932 : Int32) + x1).toNatClampNeg) q8.1)
       f_X11_readJuror_112 x1 M10
      else none
  else
    f_X11_readJuror_112 x1 M
noncomputable def f_X11_readJuror_42 (x1 : Int32) (M : Mem) : Option Mem :=
  if (M.1 50 0 12) = 0 then
    (f_X11_isStubborn M).bind fun r11 =>
    if r11 = 0 then
      f_X11_readJuror_77 x1 M
    else
      (f_X11_next M).bind fun M12 =>
      (f_X11_count (0 : Int32) (20 : Int32) M12).bind fun q13 =>
      if inb ((1922 : Int32) + x1) 2375 = true then
       let M15 := sR q13.2 55 0 (upd (q13.2.1 55 0) (((1922 : Int32) + x1).toNatClampNeg) q13.1)
       f_X11_readJuror_77 x1 M15
      else none
  else
    f_X11_readJuror_77 x1 M
noncomputable def f_X11_readJuror (M : Mem) : Option Mem :=
  (f_X11_readNew (0 : Int32) (10 : Int32) M).bind fun q1 =>
  if (q1.2.1 50 0 12) = 0 then
    (f_X11_isLeans q1.2).bind fun r16 =>
    if r16 = 0 then
      f_X11_readJuror_42 q1.1 q1.2
    else
      (f_X11_next q1.2).bind fun M17 =>
      (f_X11_signed (99 : Int32) M17).bind fun q18 =>
      if inb ((1912 : Int32) + q1.1) 2375 = true then
       let M20 := sR q18.2 55 0 (upd (q18.2.1 55 0) (((1912 : Int32) + q1.1).toNatClampNeg) q18.1)
       f_X11_readJuror_42 q1.1 M20
      else none
  else
    f_X11_readJuror_42 q1.1 q1.2
set_option maxRecDepth 20000 in
set_option maxHeartbeats 2000000 in
theorem b_X11_readJuror_112 {E : wEnv} {Y : YT} (C : Cx E Y cX11_readJuror 2 RX11 6) {q : Mem} (R : Rx E Y none none q) {x1 : Int32} {M : Mem} (h : f_X11_readJuror_112 x1 M = some q) : G E Y 2 M 112 [(0, .ref (ad E 50 0)), (1, .int x1)] [] := by
  unfold f_X11_readJuror_112 at h
  refine g_aload_n C dX11_readJuror_112 rfl rfl ?_
  refine get_X11_229 C dX11_readJuror_113 (by decide) ?_
  refine g_if_le (tgt := 120) C dX11_readJuror_116 (by decide) h (fun h => ?_) (fun h => ?_)
  · refine g_aload_n C dX11_readJuror_120 rfl rfl ?_
    refine get_X11_35 C dX11_readJuror_121 (by decide) ?_
    refine g_sipush (v := (1942 : Int32)) C dX11_readJuror_124 (by decide) ?_
    refine g_iload_n C dX11_readJuror_127 rfl rfl ?_
    refine g_iadd C dX11_readJuror_128 ?_
    refine g_aload_n C dX11_readJuror_129 rfl rfl ?_
    refine get_X11_35 C dX11_readJuror_130 (by decide) ?_
    refine g_sipush (v := (1912 : Int32)) C dX11_readJuror_133 (by decide) ?_
    refine g_iload_n C dX11_readJuror_136 rfl rfl ?_
    refine g_iadd C dX11_readJuror_137 ?_
    obtain ⟨hb2, h⟩ := of_ite h
    refine ld_55 (j := _) C dX11_readJuror_138 (by decide) hb2 rfl ?_
    obtain ⟨hb3, h⟩ := of_ite h
    refine st_55 (j := _) C dX11_readJuror_139 (by decide) hb3 rfl ?_
    refine g_aload_n C dX11_readJuror_140 rfl rfl ?_
    refine get_X11_35 C dX11_readJuror_141 (by decide) ?_
    refine g_sipush (v := (1900 : Int32)) C dX11_readJuror_144 (by decide) ?_
    refine g_dup2 C dX11_readJuror_147 rfl rfl ?_
    refine ld_55 (j := 1900) C dX11_readJuror_148 (by decide) (by decide) rfl ?_
    refine g_iconst (v := (1 : Int32)) C dX11_readJuror_149 (by decide) ?_
    refine g_iadd C dX11_readJuror_150 ?_
    refine st_55 (j := 1900) C dX11_readJuror_151 (by decide) (by decide) rfl ?_
    exact g_vret C R dX11_readJuror_152 (Option.some.inj h)
  · exact g_vret C R dX11_readJuror_119 (Option.some.inj h)
set_option maxRecDepth 20000 in
set_option maxHeartbeats 2000000 in
theorem b_X11_readJuror_77 {E : wEnv} {Y : YT} (C : Cx E Y cX11_readJuror 2 RX11 6) {q : Mem} (R : Rx E Y none none q) {x1 : Int32} {M : Mem} (h : f_X11_readJuror_77 x1 M = some q) : G E Y 2 M 77 [(0, .ref (ad E 50 0)), (1, .int x1)] [] := by
  unfold f_X11_readJuror_77 at h
  refine g_aload_n C dX11_readJuror_77 rfl rfl ?_
  refine get_X11_229 C dX11_readJuror_78 (by decide) ?_
  refine g_if_ne (tgt := 112) C dX11_readJuror_81 (by decide) h (fun h => ?_) (fun h => ?_)
  · exact g_sub (b_X11_readJuror_112 C R h) ⟨rfl, rfl, trivial⟩
  · refine g_aload_n C dX11_readJuror_84 rfl rfl ?_
    obtain ⟨r6, hr6, h⟩ := Option.bind_eq_some_iff.mp h
    refine call_X11_186 C dX11_readJuror_85 (by decide) (c_X11_isPrice E hr6) (by decide) rfl ?_
    refine g_if_eq (tgt := 112) C dX11_readJuror_88 (by decide) h (fun h => ?_) (fun h => ?_)
    · exact g_sub (b_X11_readJuror_112 C R h) ⟨rfl, rfl, trivial⟩
    · refine g_aload_n C dX11_readJuror_91 rfl rfl ?_
      obtain ⟨M7, hr7, h⟩ := Option.bind_eq_some_iff.mp h
      refine call_X11_239 C dX11_readJuror_92 (by decide) (c_X11_next E hr7) (by decide) rfl ?_
      refine g_aload_n C dX11_readJuror_95 rfl rfl ?_
      refine get_X11_35 C dX11_readJuror_96 (by decide) ?_
      refine g_sipush (v := (1932 : Int32)) C dX11_readJuror_99 (by decide) ?_
      refine g_iload_n C dX11_readJuror_102 rfl rfl ?_
      refine g_iadd C dX11_readJuror_103 ?_
      refine g_aload_n C dX11_readJuror_104 rfl rfl ?_
      refine g_iconst (v := (0 : Int32)) C dX11_readJuror_105 (by decide) ?_
      refine g_bipush (v := (99 : Int32)) C dX11_readJuror_106 (by decide) ?_
      obtain ⟨q8, hr8, h⟩ := Option.bind_eq_some_iff.mp h
      refine call_X11_245 C dX11_readJuror_108 (by decide) (c_X11_count E hr8) (by decide) rfl ?_
      obtain ⟨hb9, h⟩ := of_ite h
      refine st_55 (j := _) C dX11_readJuror_111 (by decide) hb9 rfl ?_
      exact g_sub (b_X11_readJuror_112 C R h) ⟨rfl, rfl, trivial⟩
set_option maxRecDepth 20000 in
set_option maxHeartbeats 2000000 in
theorem b_X11_readJuror_42 {E : wEnv} {Y : YT} (C : Cx E Y cX11_readJuror 2 RX11 6) {q : Mem} (R : Rx E Y none none q) {x1 : Int32} {M : Mem} (h : f_X11_readJuror_42 x1 M = some q) : G E Y 2 M 42 [(0, .ref (ad E 50 0)), (1, .int x1)] [] := by
  unfold f_X11_readJuror_42 at h
  refine g_aload_n C dX11_readJuror_42 rfl rfl ?_
  refine get_X11_229 C dX11_readJuror_43 (by decide) ?_
  refine g_if_ne (tgt := 77) C dX11_readJuror_46 (by decide) h (fun h => ?_) (fun h => ?_)
  · exact g_sub (b_X11_readJuror_77 C R h) ⟨rfl, rfl, trivial⟩
  · refine g_aload_n C dX11_readJuror_49 rfl rfl ?_
    obtain ⟨r11, hr11, h⟩ := Option.bind_eq_some_iff.mp h
    refine call_X11_183 C dX11_readJuror_50 (by decide) (c_X11_isStubborn E hr11) (by decide) rfl ?_
    refine g_if_eq (tgt := 77) C dX11_readJuror_53 (by decide) h (fun h => ?_) (fun h => ?_)
    · exact g_sub (b_X11_readJuror_77 C R h) ⟨rfl, rfl, trivial⟩
    · refine g_aload_n C dX11_readJuror_56 rfl rfl ?_
      obtain ⟨M12, hr12, h⟩ := Option.bind_eq_some_iff.mp h
      refine call_X11_239 C dX11_readJuror_57 (by decide) (c_X11_next E hr12) (by decide) rfl ?_
      refine g_aload_n C dX11_readJuror_60 rfl rfl ?_
      refine get_X11_35 C dX11_readJuror_61 (by decide) ?_
      refine g_sipush (v := (1922 : Int32)) C dX11_readJuror_64 (by decide) ?_
      refine g_iload_n C dX11_readJuror_67 rfl rfl ?_
      refine g_iadd C dX11_readJuror_68 ?_
      refine g_aload_n C dX11_readJuror_69 rfl rfl ?_
      refine g_iconst (v := (0 : Int32)) C dX11_readJuror_70 (by decide) ?_
      refine g_bipush (v := (20 : Int32)) C dX11_readJuror_71 (by decide) ?_
      obtain ⟨q13, hr13, h⟩ := Option.bind_eq_some_iff.mp h
      refine call_X11_245 C dX11_readJuror_73 (by decide) (c_X11_count E hr13) (by decide) rfl ?_
      obtain ⟨hb14, h⟩ := of_ite h
      refine st_55 (j := _) C dX11_readJuror_76 (by decide) hb14 rfl ?_
      exact g_sub (b_X11_readJuror_77 C R h) ⟨rfl, rfl, trivial⟩
set_option maxRecDepth 20000 in
set_option maxHeartbeats 2000000 in
theorem c_X11_readJuror (E : wEnv) {M : Mem} {q : Mem} (h : f_X11_readJuror M = some q) : Mt E yX11_readJuror cX11_readJuror 2 none 6 [.ref (ad E 50 0)] M none q := by
  unfold f_X11_readJuror at h
  refine mt_intro (own := RX11) (lv0 := [(0, .ref (ad E 50 0))]) (by decide) rfl rfl rfl (fun Y C R => ?_)
  refine g_aload_n C dX11_readJuror_0 rfl rfl ?_
  refine g_iconst (v := (0 : Int32)) C dX11_readJuror_1 (by decide) ?_
  refine g_bipush (v := (10 : Int32)) C dX11_readJuror_2 (by decide) ?_
  obtain ⟨q1, hr1, h⟩ := Option.bind_eq_some_iff.mp h
  refine call_X11_274 C dX11_readJuror_4 (by decide) (c_X11_readNew E hr1) (by decide) rfl ?_
  refine g_istore_n C dX11_readJuror_7 rfl rfl ?_
  refine g_aload_n C dX11_readJuror_8 rfl rfl ?_
  refine get_X11_229 C dX11_readJuror_9 (by decide) ?_
  refine g_if_ne (tgt := 42) C dX11_readJuror_12 (by decide) h (fun h => ?_) (fun h => ?_)
  · exact g_sub (b_X11_readJuror_42 C R h) ⟨rfl, rfl, trivial⟩
  · refine g_aload_n C dX11_readJuror_15 rfl rfl ?_
    obtain ⟨r16, hr16, h⟩ := Option.bind_eq_some_iff.mp h
    refine call_X11_177 C dX11_readJuror_16 (by decide) (c_X11_isLeans E hr16) (by decide) rfl ?_
    refine g_if_eq (tgt := 42) C dX11_readJuror_19 (by decide) h (fun h => ?_) (fun h => ?_)
    · exact g_sub (b_X11_readJuror_42 C R h) ⟨rfl, rfl, trivial⟩
    · refine g_aload_n C dX11_readJuror_22 rfl rfl ?_
      obtain ⟨M17, hr17, h⟩ := Option.bind_eq_some_iff.mp h
      refine call_X11_239 C dX11_readJuror_23 (by decide) (c_X11_next E hr17) (by decide) rfl ?_
      refine g_aload_n C dX11_readJuror_26 rfl rfl ?_
      refine get_X11_35 C dX11_readJuror_27 (by decide) ?_
      refine g_sipush (v := (1912 : Int32)) C dX11_readJuror_30 (by decide) ?_
      refine g_iload_n C dX11_readJuror_33 rfl rfl ?_
      refine g_iadd C dX11_readJuror_34 ?_
      refine g_aload_n C dX11_readJuror_35 rfl rfl ?_
      refine g_bipush (v := (99 : Int32)) C dX11_readJuror_36 (by decide) ?_
      obtain ⟨q18, hr18, h⟩ := Option.bind_eq_some_iff.mp h
      refine call_X11_277 C dX11_readJuror_38 (by decide) (c_X11_signed E hr18) (by decide) rfl ?_
      obtain ⟨hb19, h⟩ := of_ite h
      refine st_55 (j := _) C dX11_readJuror_41 (by decide) hb19 rfl ?_
      exact g_sub (b_X11_readJuror_42 C R h) ⟨rfl, rfl, trivial⟩
noncomputable def f_X11_readSways_39 (x1 : Int32) (x2 : Int32) (M : Mem) : Option Mem :=
  (f_X11_must (1 : Int32) M).bind fun M4 =>
  (f_X11_count (0 : Int32) (20 : Int32) M4).bind fun q5 =>
  if (q5.2.1 50 0 12) = 0 then
    if inb (((1952 : Int32) + ((10 : Int32) * x1)) + x2) 2375 = true then
     let M7 := sR q5.2 55 0 (upd (q5.2.1 55 0) ((((1952 : Int32) + ((10 : Int32) * x1)) + x2).toNatClampNeg) q5.1)
     some M7
    else none
  else
    some q5.2
noncomputable def f_X11_readSways (M : Mem) : Option Mem :=
  (f_X11_next M).bind fun M1 =>
  (f_X11_readTold (4 : Int32) (0 : Int32) M1).bind fun q2 =>
  (f_X11_told (4 : Int32) (0 : Int32) q2.2).bind fun q3 =>
  if (q3.2.1 50 0 12) = 0 then
    if q2.1 = q3.1 then
      (f_X11_fail (5 : Int32) (q3.2.1 50 0 15) q3.2).bind fun M8 =>
      f_X11_readSways_39 q2.1 q3.1 M8
    else
      f_X11_readSways_39 q2.1 q3.1 q3.2
  else
    f_X11_readSways_39 q2.1 q3.1 q3.2
set_option maxRecDepth 20000 in
set_option maxHeartbeats 2000000 in
theorem b_X11_readSways_39 {E : wEnv} {Y : YT} (C : Cx E Y cX11_readSways 4 RX11 7) {q : Mem} (R : Rx E Y none none q) {x1 : Int32} {x2 : Int32} {M : Mem} (h : f_X11_readSways_39 x1 x2 M = some q) : G E Y 4 M 39 [(0, .ref (ad E 50 0)), (1, .int x1), (2, .int x2)] [] := by
  unfold f_X11_readSways_39 at h
  refine g_aload_n C dX11_readSways_39 rfl rfl ?_
  refine g_iconst (v := (1 : Int32)) C dX11_readSways_40 (by decide) ?_
  obtain ⟨M4, hr4, h⟩ := Option.bind_eq_some_iff.mp h
  refine call_X11_270 C dX11_readSways_41 (by decide) (c_X11_must E hr4) (by decide) rfl ?_
  refine g_aload_n C dX11_readSways_44 rfl rfl ?_
  refine g_iconst (v := (0 : Int32)) C dX11_readSways_45 (by decide) ?_
  refine g_bipush (v := (20 : Int32)) C dX11_readSways_46 (by decide) ?_
  obtain ⟨q5, hr5, h⟩ := Option.bind_eq_some_iff.mp h
  refine call_X11_245 C dX11_readSways_48 (by decide) (c_X11_count E hr5) (by decide) rfl ?_
  refine g_istore_n C dX11_readSways_51 rfl rfl ?_
  refine g_aload_n C dX11_readSways_52 rfl rfl ?_
  refine get_X11_229 C dX11_readSways_53 (by decide) ?_
  refine g_if_ne (tgt := 75) C dX11_readSways_56 (by decide) h (fun h => ?_) (fun h => ?_)
  · exact g_vret C R dX11_readSways_75 (Option.some.inj h)
  · refine g_aload_n C dX11_readSways_59 rfl rfl ?_
    refine get_X11_35 C dX11_readSways_60 (by decide) ?_
    refine g_sipush (v := (1952 : Int32)) C dX11_readSways_63 (by decide) ?_
    refine g_bipush (v := (10 : Int32)) C dX11_readSways_66 (by decide) ?_
    refine g_iload_n C dX11_readSways_68 rfl rfl ?_
    refine g_imul C dX11_readSways_69 ?_
    refine g_iadd C dX11_readSways_70 ?_
    refine g_iload_n C dX11_readSways_71 rfl rfl ?_
    refine g_iadd C dX11_readSways_72 ?_
    refine g_iload_n C dX11_readSways_73 rfl rfl ?_
    obtain ⟨hb6, h⟩ := of_ite h
    refine st_55 (j := _) C dX11_readSways_74 (by decide) hb6 rfl ?_
    exact g_vret C R dX11_readSways_75 (Option.some.inj h)
set_option maxRecDepth 20000 in
set_option maxHeartbeats 2000000 in
theorem c_X11_readSways (E : wEnv) {M : Mem} {q : Mem} (h : f_X11_readSways M = some q) : Mt E yX11_readSways cX11_readSways 4 none 7 [.ref (ad E 50 0)] M none q := by
  unfold f_X11_readSways at h
  refine mt_intro (own := RX11) (lv0 := [(0, .ref (ad E 50 0))]) (by decide) rfl rfl rfl (fun Y C R => ?_)
  refine g_aload_n C dX11_readSways_0 rfl rfl ?_
  obtain ⟨M1, hr1, h⟩ := Option.bind_eq_some_iff.mp h
  refine call_X11_239 C dX11_readSways_1 (by decide) (c_X11_next E hr1) (by decide) rfl ?_
  refine g_aload_n C dX11_readSways_4 rfl rfl ?_
  refine g_iconst (v := (4 : Int32)) C dX11_readSways_5 (by decide) ?_
  refine g_iconst (v := (0 : Int32)) C dX11_readSways_6 (by decide) ?_
  obtain ⟨q2, hr2, h⟩ := Option.bind_eq_some_iff.mp h
  refine call_X11_280 C dX11_readSways_7 (by decide) (c_X11_readTold E hr2) (by decide) rfl ?_
  refine g_istore_n C dX11_readSways_10 rfl rfl ?_
  refine g_aload_n C dX11_readSways_11 rfl rfl ?_
  refine g_iconst (v := (4 : Int32)) C dX11_readSways_12 (by decide) ?_
  refine g_iconst (v := (0 : Int32)) C dX11_readSways_13 (by decide) ?_
  obtain ⟨q3, hr3, h⟩ := Option.bind_eq_some_iff.mp h
  refine call_X11_267 C dX11_readSways_14 (by decide) (c_X11_told E hr3) (by decide) rfl ?_
  refine g_istore_n C dX11_readSways_17 rfl rfl ?_
  refine g_aload_n C dX11_readSways_18 rfl rfl ?_
  refine get_X11_229 C dX11_readSways_19 (by decide) ?_
  refine g_if_ne (tgt := 39) C dX11_readSways_22 (by decide) h (fun h => ?_) (fun h => ?_)
  · exact g_sub (b_X11_readSways_39 C R h) ⟨rfl, rfl, rfl, trivial⟩
  · refine g_iload_n C dX11_readSways_25 rfl rfl ?_
    refine g_iload_n C dX11_readSways_26 rfl rfl ?_
    refine g_icmp_ne (tgt := 39) C dX11_readSways_27 (by decide) h (fun h => ?_) (fun h => ?_)
    · exact g_sub (b_X11_readSways_39 C R h) ⟨rfl, rfl, rfl, trivial⟩
    · refine g_aload_n C dX11_readSways_30 rfl rfl ?_
      refine g_iconst (v := (5 : Int32)) C dX11_readSways_31 (by decide) ?_
      refine g_aload_n C dX11_readSways_32 rfl rfl ?_
      refine get_X11_120 C dX11_readSways_33 (by decide) ?_
      obtain ⟨M8, hr8, h⟩ := Option.bind_eq_some_iff.mp h
      refine call_X11_235 C dX11_readSways_36 (by decide) (c_X11_fail E hr8) (by decide) rfl ?_
      exact g_sub (b_X11_readSways_39 C R h) ⟨rfl, rfl, rfl, trivial⟩
noncomputable def f_X11_readProof (M : Mem) : Option Mem :=
  (f_X11_readNew (1 : Int32) (6 : Int32) M).bind fun q1 =>
  (f_X11_signed (99 : Int32) q1.2).bind fun q2 =>
  if inb ((2052 : Int32) + q1.1) 2375 = true then
   let M4 := sR q2.2 55 0 (upd (q2.2.1 55 0) (((2052 : Int32) + q1.1).toNatClampNeg) q2.1)
   if (M4.1 50 0 12) = 0 then
     let M5 := sR M4 55 0 (upd (M4.1 55 0) 1901 ((M4.1 55 0 1901) + (1 : Int32)))
     some M5
   else
     some M4
  else none
set_option maxRecDepth 20000 in
set_option maxHeartbeats 2000000 in
theorem c_X11_readProof (E : wEnv) {M : Mem} {q : Mem} (h : f_X11_readProof M = some q) : Mt E yX11_readProof cX11_readProof 2 none 6 [.ref (ad E 50 0)] M none q := by
  unfold f_X11_readProof at h
  refine mt_intro (own := RX11) (lv0 := [(0, .ref (ad E 50 0))]) (by decide) rfl rfl rfl (fun Y C R => ?_)
  refine g_aload_n C dX11_readProof_0 rfl rfl ?_
  refine g_iconst (v := (1 : Int32)) C dX11_readProof_1 (by decide) ?_
  refine g_bipush (v := (6 : Int32)) C dX11_readProof_2 (by decide) ?_
  obtain ⟨q1, hr1, h⟩ := Option.bind_eq_some_iff.mp h
  refine call_X11_274 C dX11_readProof_4 (by decide) (c_X11_readNew E hr1) (by decide) rfl ?_
  refine g_istore_n C dX11_readProof_7 rfl rfl ?_
  refine g_aload_n C dX11_readProof_8 rfl rfl ?_
  refine get_X11_35 C dX11_readProof_9 (by decide) ?_
  refine g_sipush (v := (2052 : Int32)) C dX11_readProof_12 (by decide) ?_
  refine g_iload_n C dX11_readProof_15 rfl rfl ?_
  refine g_iadd C dX11_readProof_16 ?_
  refine g_aload_n C dX11_readProof_17 rfl rfl ?_
  refine g_bipush (v := (99 : Int32)) C dX11_readProof_18 (by decide) ?_
  obtain ⟨q2, hr2, h⟩ := Option.bind_eq_some_iff.mp h
  refine call_X11_277 C dX11_readProof_20 (by decide) (c_X11_signed E hr2) (by decide) rfl ?_
  obtain ⟨hb3, h⟩ := of_ite h
  refine st_55 (j := _) C dX11_readProof_23 (by decide) hb3 rfl ?_
  refine g_aload_n C dX11_readProof_24 rfl rfl ?_
  refine get_X11_229 C dX11_readProof_25 (by decide) ?_
  refine g_if_ne (tgt := 43) C dX11_readProof_28 (by decide) h (fun h => ?_) (fun h => ?_)
  · exact g_vret C R dX11_readProof_43 (Option.some.inj h)
  · refine g_aload_n C dX11_readProof_31 rfl rfl ?_
    refine get_X11_35 C dX11_readProof_32 (by decide) ?_
    refine g_sipush (v := (1901 : Int32)) C dX11_readProof_35 (by decide) ?_
    refine g_dup2 C dX11_readProof_38 rfl rfl ?_
    refine ld_55 (j := 1901) C dX11_readProof_39 (by decide) (by decide) rfl ?_
    refine g_iconst (v := (1 : Int32)) C dX11_readProof_40 (by decide) ?_
    refine g_iadd C dX11_readProof_41 ?_
    refine st_55 (j := 1901) C dX11_readProof_42 (by decide) (by decide) rfl ?_
    exact g_vret C R dX11_readProof_43 (Option.some.inj h)
noncomputable def f_X11_readWeather (M : Mem) : Option Mem :=
  (f_X11_readNew (2 : Int32) (6 : Int32) M).bind fun q1 =>
  if 0 < (q1.2.1 50 0 12) then
    some q1.2
  else
    if inb ((2058 : Int32) + q1.1) 2375 = true then
     let M3 := sR q1.2 55 0 (upd (q1.2.1 55 0) (((2058 : Int32) + q1.1).toNatClampNeg) q1.1)
     if inb ((2064 : Int32) + q1.1) 2375 = true then
      let M5 := sR M3 55 0 (upd (M3.1 55 0) (((2064 : Int32) + q1.1).toNatClampNeg) q1.1)
      let M6 := sR M5 55 0 (upd (M5.1 55 0) 1902 ((M5.1 55 0 1902) + (1 : Int32)))
      some M6
     else none
    else none
set_option maxRecDepth 20000 in
set_option maxHeartbeats 2000000 in
theorem c_X11_readWeather (E : wEnv) {M : Mem} {q : Mem} (h : f_X11_readWeather M = some q) : Mt E yX11_readWeather cX11_readWeather 2 none 6 [.ref (ad E 50 0)] M none q := by
  unfold f_X11_readWeather at h
  refine mt_intro (own := RX11) (lv0 := [(0, .ref (ad E 50 0))]) (by decide) rfl rfl rfl (fun Y C R => ?_)
  refine g_aload_n C dX11_readWeather_0 rfl rfl ?_
  refine g_iconst (v := (2 : Int32)) C dX11_readWeather_1 (by decide) ?_
  refine g_bipush (v := (6 : Int32)) C dX11_readWeather_2 (by decide) ?_
  obtain ⟨q1, hr1, h⟩ := Option.bind_eq_some_iff.mp h
  refine call_X11_274 C dX11_readWeather_4 (by decide) (c_X11_readNew E hr1) (by decide) rfl ?_
  refine g_istore_n C dX11_readWeather_7 rfl rfl ?_
  refine g_aload_n C dX11_readWeather_8 rfl rfl ?_
  refine get_X11_229 C dX11_readWeather_9 (by decide) ?_
  refine g_if_le (tgt := 16) C dX11_readWeather_12 (by decide) h (fun h => ?_) (fun h => ?_)
  · refine g_aload_n C dX11_readWeather_16 rfl rfl ?_
    refine get_X11_35 C dX11_readWeather_17 (by decide) ?_
    refine g_sipush (v := (2058 : Int32)) C dX11_readWeather_20 (by decide) ?_
    refine g_iload_n C dX11_readWeather_23 rfl rfl ?_
    refine g_iadd C dX11_readWeather_24 ?_
    refine g_iload_n C dX11_readWeather_25 rfl rfl ?_
    obtain ⟨hb2, h⟩ := of_ite h
    refine st_55 (j := _) C dX11_readWeather_26 (by decide) hb2 rfl ?_
    refine g_aload_n C dX11_readWeather_27 rfl rfl ?_
    refine get_X11_35 C dX11_readWeather_28 (by decide) ?_
    refine g_sipush (v := (2064 : Int32)) C dX11_readWeather_31 (by decide) ?_
    refine g_iload_n C dX11_readWeather_34 rfl rfl ?_
    refine g_iadd C dX11_readWeather_35 ?_
    refine g_iload_n C dX11_readWeather_36 rfl rfl ?_
    obtain ⟨hb4, h⟩ := of_ite h
    refine st_55 (j := _) C dX11_readWeather_37 (by decide) hb4 rfl ?_
    refine g_aload_n C dX11_readWeather_38 rfl rfl ?_
    refine get_X11_35 C dX11_readWeather_39 (by decide) ?_
    refine g_sipush (v := (1902 : Int32)) C dX11_readWeather_42 (by decide) ?_
    refine g_dup2 C dX11_readWeather_45 rfl rfl ?_
    refine ld_55 (j := 1902) C dX11_readWeather_46 (by decide) (by decide) rfl ?_
    refine g_iconst (v := (1 : Int32)) C dX11_readWeather_47 (by decide) ?_
    refine g_iadd C dX11_readWeather_48 ?_
    refine st_55 (j := 1902) C dX11_readWeather_49 (by decide) (by decide) rfl ?_
    exact g_vret C R dX11_readWeather_50 (Option.some.inj h)
  · exact g_vret C R dX11_readWeather_15 (Option.some.inj h)
noncomputable def f_X11_readFollows (M : Mem) : Option Mem :=
  (f_X11_next M).bind fun M1 =>
  (f_X11_readTold (4 : Int32) (2 : Int32) M1).bind fun q2 =>
  (f_X11_isGuilty q2.2).bind fun r3 =>
  (f_X11_must r3 q2.2).bind fun M4 =>
  (f_X11_readTold (4 : Int32) (2 : Int32) M4).bind fun q5 =>
  (f_X11_isFree q5.2).bind fun r6 =>
  (f_X11_must r6 q5.2).bind fun M7 =>
  (f_X11_readTold (4 : Int32) (2 : Int32) M7).bind fun q8 =>
  if 0 < (q8.2.1 50 0 12) then
    some q8.2
  else
    if inb ((2058 : Int32) + q2.1) 2375 = true then
     let M10 := sR q8.2 55 0 (upd (q8.2.1 55 0) (((2058 : Int32) + q2.1).toNatClampNeg) q5.1)
     if inb ((2064 : Int32) + q2.1) 2375 = true then
      let M12 := sR M10 55 0 (upd (M10.1 55 0) (((2064 : Int32) + q2.1).toNatClampNeg) q8.1)
      some M12
     else none
    else none
set_option maxRecDepth 20000 in
set_option maxHeartbeats 2000000 in
theorem c_X11_readFollows (E : wEnv) {M : Mem} {q : Mem} (h : f_X11_readFollows M = some q) : Mt E yX11_readFollows cX11_readFollows 4 none 7 [.ref (ad E 50 0)] M none q := by
  unfold f_X11_readFollows at h
  refine mt_intro (own := RX11) (lv0 := [(0, .ref (ad E 50 0))]) (by decide) rfl rfl rfl (fun Y C R => ?_)
  refine g_aload_n C dX11_readFollows_0 rfl rfl ?_
  obtain ⟨M1, hr1, h⟩ := Option.bind_eq_some_iff.mp h
  refine call_X11_239 C dX11_readFollows_1 (by decide) (c_X11_next E hr1) (by decide) rfl ?_
  refine g_aload_n C dX11_readFollows_4 rfl rfl ?_
  refine g_iconst (v := (4 : Int32)) C dX11_readFollows_5 (by decide) ?_
  refine g_iconst (v := (2 : Int32)) C dX11_readFollows_6 (by decide) ?_
  obtain ⟨q2, hr2, h⟩ := Option.bind_eq_some_iff.mp h
  refine call_X11_280 C dX11_readFollows_7 (by decide) (c_X11_readTold E hr2) (by decide) rfl ?_
  refine g_istore_n C dX11_readFollows_10 rfl rfl ?_
  refine g_aload_n C dX11_readFollows_11 rfl rfl ?_
  refine g_aload_n C dX11_readFollows_12 rfl rfl ?_
  obtain ⟨r3, hr3, h⟩ := Option.bind_eq_some_iff.mp h
  refine call_X11_198 C dX11_readFollows_13 (by decide) (c_X11_isGuilty E hr3) (by decide) rfl ?_
  obtain ⟨M4, hr4, h⟩ := Option.bind_eq_some_iff.mp h
  refine call_X11_270 C dX11_readFollows_16 (by decide) (c_X11_must E hr4) (by decide) rfl ?_
  refine g_aload_n C dX11_readFollows_19 rfl rfl ?_
  refine g_iconst (v := (4 : Int32)) C dX11_readFollows_20 (by decide) ?_
  refine g_iconst (v := (2 : Int32)) C dX11_readFollows_21 (by decide) ?_
  obtain ⟨q5, hr5, h⟩ := Option.bind_eq_some_iff.mp h
  refine call_X11_280 C dX11_readFollows_22 (by decide) (c_X11_readTold E hr5) (by decide) rfl ?_
  refine g_istore_n C dX11_readFollows_25 rfl rfl ?_
  refine g_aload_n C dX11_readFollows_26 rfl rfl ?_
  refine g_aload_n C dX11_readFollows_27 rfl rfl ?_
  obtain ⟨r6, hr6, h⟩ := Option.bind_eq_some_iff.mp h
  refine call_X11_201 C dX11_readFollows_28 (by decide) (c_X11_isFree E hr6) (by decide) rfl ?_
  obtain ⟨M7, hr7, h⟩ := Option.bind_eq_some_iff.mp h
  refine call_X11_270 C dX11_readFollows_31 (by decide) (c_X11_must E hr7) (by decide) rfl ?_
  refine g_aload_n C dX11_readFollows_34 rfl rfl ?_
  refine g_iconst (v := (4 : Int32)) C dX11_readFollows_35 (by decide) ?_
  refine g_iconst (v := (2 : Int32)) C dX11_readFollows_36 (by decide) ?_
  obtain ⟨q8, hr8, h⟩ := Option.bind_eq_some_iff.mp h
  refine call_X11_280 C dX11_readFollows_37 (by decide) (c_X11_readTold E hr8) (by decide) rfl ?_
  refine g_istore_n C dX11_readFollows_40 rfl rfl ?_
  refine g_aload_n C dX11_readFollows_41 rfl rfl ?_
  refine get_X11_229 C dX11_readFollows_42 (by decide) ?_
  refine g_if_le (tgt := 49) C dX11_readFollows_45 (by decide) h (fun h => ?_) (fun h => ?_)
  · refine g_aload_n C dX11_readFollows_49 rfl rfl ?_
    refine get_X11_35 C dX11_readFollows_50 (by decide) ?_
    refine g_sipush (v := (2058 : Int32)) C dX11_readFollows_53 (by decide) ?_
    refine g_iload_n C dX11_readFollows_56 rfl rfl ?_
    refine g_iadd C dX11_readFollows_57 ?_
    refine g_iload_n C dX11_readFollows_58 rfl rfl ?_
    obtain ⟨hb9, h⟩ := of_ite h
    refine st_55 (j := _) C dX11_readFollows_59 (by decide) hb9 rfl ?_
    refine g_aload_n C dX11_readFollows_60 rfl rfl ?_
    refine get_X11_35 C dX11_readFollows_61 (by decide) ?_
    refine g_sipush (v := (2064 : Int32)) C dX11_readFollows_64 (by decide) ?_
    refine g_iload_n C dX11_readFollows_67 rfl rfl ?_
    refine g_iadd C dX11_readFollows_68 ?_
    refine g_iload_n C dX11_readFollows_69 rfl rfl ?_
    obtain ⟨hb11, h⟩ := of_ite h
    refine st_55 (j := _) C dX11_readFollows_70 (by decide) hb11 rfl ?_
    exact g_vret C R dX11_readFollows_71 (Option.some.inj h)
  · exact g_vret C R dX11_readFollows_48 (Option.some.inj h)
noncomputable def f_X11_readCrop_7 (x1 : Int32) : Nat → Mem → Option Mem
  | 0, _ => none
  | n + 1, M =>
  if (M.1 50 0 12) = 0 then
    (f_X11_isOn M).bind fun r3 =>
    if r3 = 0 then
      if (M.1 50 0 12) = 0 then
        let M4 := sR M 55 0 (upd (M.1 55 0) 1903 ((M.1 55 0 1903) + (1 : Int32)))
        some M4
      else
        some M
    else
      (f_X11_next M).bind fun M5 =>
      (f_X11_readTold (4 : Int32) (2 : Int32) M5).bind fun q6 =>
      (f_X11_signed (99 : Int32) q6.2).bind fun q7 =>
      if (q7.2.1 50 0 12) = 0 then
        if inb (((2070 : Int32) + ((6 : Int32) * x1)) + q6.1) 2375 = true then
         let M9 := sR q7.2 55 0 (upd (q7.2.1 55 0) ((((2070 : Int32) + ((6 : Int32) * x1)) + q6.1).toNatClampNeg) q7.1)
         f_X11_readCrop_7 x1 n M9
        else none
      else
        f_X11_readCrop_7 x1 n q7.2
  else
    if (M.1 50 0 12) = 0 then
      let M2 := sR M 55 0 (upd (M.1 55 0) 1903 ((M.1 55 0 1903) + (1 : Int32)))
      some M2
    else
      some M
noncomputable def f_X11_readCrop (M : Mem) : Option Mem :=
  (f_X11_readNew (3 : Int32) (4 : Int32) M).bind fun q1 =>
  f_X11_readCrop_7 q1.1 FU q1.2
set_option maxRecDepth 20000 in
set_option maxHeartbeats 2000000 in
theorem b_X11_readCrop_7 {E : wEnv} {Y : YT} (C : Cx E Y cX11_readCrop 4 RX11 7) {q : Mem} (R : Rx E Y none none q) {x1 : Int32} (n : Nat) : ∀ {M : Mem} (_ : f_X11_readCrop_7 x1 n M = some q), G E Y 4 M 7 [(0, .ref (ad E 50 0)), (1, .int x1)] [] := by
  induction n with
  | zero =>
    intro M h
    cases (show none = some q from h)
  | succ n ih =>
    intro M h
    rw [f_X11_readCrop_7] at h
    refine g_aload_n C dX11_readCrop_7 rfl rfl ?_
    refine get_X11_229 C dX11_readCrop_8 (by decide) ?_
    refine g_if_ne (tgt := 65) C dX11_readCrop_11 (by decide) h (fun h => ?_) (fun h => ?_)
    · refine g_aload_n C dX11_readCrop_65 rfl rfl ?_
      refine get_X11_229 C dX11_readCrop_66 (by decide) ?_
      refine g_if_ne (tgt := 84) C dX11_readCrop_69 (by decide) h (fun h => ?_) (fun h => ?_)
      · exact g_vret C R dX11_readCrop_84 (Option.some.inj h)
      · refine g_aload_n C dX11_readCrop_72 rfl rfl ?_
        refine get_X11_35 C dX11_readCrop_73 (by decide) ?_
        refine g_sipush (v := (1903 : Int32)) C dX11_readCrop_76 (by decide) ?_
        refine g_dup2 C dX11_readCrop_79 rfl rfl ?_
        refine ld_55 (j := 1903) C dX11_readCrop_80 (by decide) (by decide) rfl ?_
        refine g_iconst (v := (1 : Int32)) C dX11_readCrop_81 (by decide) ?_
        refine g_iadd C dX11_readCrop_82 ?_
        refine st_55 (j := 1903) C dX11_readCrop_83 (by decide) (by decide) rfl ?_
        exact g_vret C R dX11_readCrop_84 (Option.some.inj h)
    · refine g_aload_n C dX11_readCrop_14 rfl rfl ?_
      obtain ⟨r3, hr3, h⟩ := Option.bind_eq_some_iff.mp h
      refine call_X11_204 C dX11_readCrop_15 (by decide) (c_X11_isOn E hr3) (by decide) rfl ?_
      refine g_if_eq (tgt := 65) C dX11_readCrop_18 (by decide) h (fun h => ?_) (fun h => ?_)
      · refine g_aload_n C dX11_readCrop_65 rfl rfl ?_
        refine get_X11_229 C dX11_readCrop_66 (by decide) ?_
        refine g_if_ne (tgt := 84) C dX11_readCrop_69 (by decide) h (fun h => ?_) (fun h => ?_)
        · exact g_vret C R dX11_readCrop_84 (Option.some.inj h)
        · refine g_aload_n C dX11_readCrop_72 rfl rfl ?_
          refine get_X11_35 C dX11_readCrop_73 (by decide) ?_
          refine g_sipush (v := (1903 : Int32)) C dX11_readCrop_76 (by decide) ?_
          refine g_dup2 C dX11_readCrop_79 rfl rfl ?_
          refine ld_55 (j := 1903) C dX11_readCrop_80 (by decide) (by decide) rfl ?_
          refine g_iconst (v := (1 : Int32)) C dX11_readCrop_81 (by decide) ?_
          refine g_iadd C dX11_readCrop_82 ?_
          refine st_55 (j := 1903) C dX11_readCrop_83 (by decide) (by decide) rfl ?_
          exact g_vret C R dX11_readCrop_84 (Option.some.inj h)
      · refine g_aload_n C dX11_readCrop_21 rfl rfl ?_
        obtain ⟨M5, hr5, h⟩ := Option.bind_eq_some_iff.mp h
        refine call_X11_239 C dX11_readCrop_22 (by decide) (c_X11_next E hr5) (by decide) rfl ?_
        refine g_aload_n C dX11_readCrop_25 rfl rfl ?_
        refine g_iconst (v := (4 : Int32)) C dX11_readCrop_26 (by decide) ?_
        refine g_iconst (v := (2 : Int32)) C dX11_readCrop_27 (by decide) ?_
        obtain ⟨q6, hr6, h⟩ := Option.bind_eq_some_iff.mp h
        refine call_X11_280 C dX11_readCrop_28 (by decide) (c_X11_readTold E hr6) (by decide) rfl ?_
        refine g_istore_n C dX11_readCrop_31 rfl rfl ?_
        refine g_aload_n C dX11_readCrop_32 rfl rfl ?_
        refine g_bipush (v := (99 : Int32)) C dX11_readCrop_33 (by decide) ?_
        obtain ⟨q7, hr7, h⟩ := Option.bind_eq_some_iff.mp h
        refine call_X11_277 C dX11_readCrop_35 (by decide) (c_X11_signed E hr7) (by decide) rfl ?_
        refine g_istore_n C dX11_readCrop_38 rfl rfl ?_
        refine g_aload_n C dX11_readCrop_39 rfl rfl ?_
        refine get_X11_229 C dX11_readCrop_40 (by decide) ?_
        refine g_if_ne (tgt := 62) C dX11_readCrop_43 (by decide) h (fun h => ?_) (fun h => ?_)
        · refine g_goto (tgt := 7) C dX11_readCrop_62 (by decide) ?_
          exact g_sub (ih h) ⟨rfl, rfl, trivial⟩
        · refine g_aload_n C dX11_readCrop_46 rfl rfl ?_
          refine get_X11_35 C dX11_readCrop_47 (by decide) ?_
          refine g_sipush (v := (2070 : Int32)) C dX11_readCrop_50 (by decide) ?_
          refine g_bipush (v := (6 : Int32)) C dX11_readCrop_53 (by decide) ?_
          refine g_iload_n C dX11_readCrop_55 rfl rfl ?_
          refine g_imul C dX11_readCrop_56 ?_
          refine g_iadd C dX11_readCrop_57 ?_
          refine g_iload_n C dX11_readCrop_58 rfl rfl ?_
          refine g_iadd C dX11_readCrop_59 ?_
          refine g_iload_n C dX11_readCrop_60 rfl rfl ?_
          obtain ⟨hb8, h⟩ := of_ite h
          refine st_55 (j := _) C dX11_readCrop_61 (by decide) hb8 rfl ?_
          refine g_goto (tgt := 7) C dX11_readCrop_62 (by decide) ?_
          exact g_sub (ih h) ⟨rfl, rfl, trivial⟩
set_option maxRecDepth 20000 in
set_option maxHeartbeats 2000000 in
theorem c_X11_readCrop (E : wEnv) {M : Mem} {q : Mem} (h : f_X11_readCrop M = some q) : Mt E yX11_readCrop cX11_readCrop 4 none 7 [.ref (ad E 50 0)] M none q := by
  unfold f_X11_readCrop at h
  refine mt_intro (own := RX11) (lv0 := [(0, .ref (ad E 50 0))]) (by decide) rfl rfl rfl (fun Y C R => ?_)
  refine g_aload_n C dX11_readCrop_0 rfl rfl ?_
  refine g_iconst (v := (3 : Int32)) C dX11_readCrop_1 (by decide) ?_
  refine g_iconst (v := (4 : Int32)) C dX11_readCrop_2 (by decide) ?_
  obtain ⟨q1, hr1, h⟩ := Option.bind_eq_some_iff.mp h
  refine call_X11_274 C dX11_readCrop_3 (by decide) (c_X11_readNew E hr1) (by decide) rfl ?_
  refine g_istore_n C dX11_readCrop_6 rfl rfl ?_
  exact g_sub (b_X11_readCrop_7 C R _ h) ⟨rfl, rfl, trivial⟩
noncomputable def f_X11_readHunger_20 (M : Mem) : Option Mem :=
  if 0 < (M.1 50 0 12) then
    some M
  else
    (f_X11_next M).bind fun M1 =>
    (f_X11_count (1 : Int32) (99 : Int32) M1).bind fun q2 =>
    let M3 := sR q2.2 55 0 (upd (q2.2.1 55 0) 1904 q2.1)
    some M3
noncomputable def f_X11_readHunger (M : Mem) : Option Mem :=
  if 0 < (M.1 55 0 1904) then
    (f_X11_fail (5 : Int32) (M.1 50 0 15) M).bind fun M4 =>
    f_X11_readHunger_20 M4
  else
    f_X11_readHunger_20 M
set_option maxRecDepth 20000 in
set_option maxHeartbeats 2000000 in
theorem b_X11_readHunger_20 {E : wEnv} {Y : YT} (C : Cx E Y cX11_readHunger 1 RX11 3) {q : Mem} (R : Rx E Y none none q) {M : Mem} (h : f_X11_readHunger_20 M = some q) : G E Y 1 M 20 [(0, .ref (ad E 50 0))] [] := by
  unfold f_X11_readHunger_20 at h
  refine g_aload_n C dX11_readHunger_20 rfl rfl ?_
  refine get_X11_229 C dX11_readHunger_21 (by decide) ?_
  refine g_if_le (tgt := 28) C dX11_readHunger_24 (by decide) h (fun h => ?_) (fun h => ?_)
  · refine g_aload_n C dX11_readHunger_28 rfl rfl ?_
    obtain ⟨M1, hr1, h⟩ := Option.bind_eq_some_iff.mp h
    refine call_X11_239 C dX11_readHunger_29 (by decide) (c_X11_next E hr1) (by decide) rfl ?_
    refine g_aload_n C dX11_readHunger_32 rfl rfl ?_
    refine get_X11_35 C dX11_readHunger_33 (by decide) ?_
    refine g_sipush (v := (1904 : Int32)) C dX11_readHunger_36 (by decide) ?_
    refine g_aload_n C dX11_readHunger_39 rfl rfl ?_
    refine g_iconst (v := (1 : Int32)) C dX11_readHunger_40 (by decide) ?_
    refine g_bipush (v := (99 : Int32)) C dX11_readHunger_41 (by decide) ?_
    obtain ⟨q2, hr2, h⟩ := Option.bind_eq_some_iff.mp h
    refine call_X11_245 C dX11_readHunger_43 (by decide) (c_X11_count E hr2) (by decide) rfl ?_
    refine st_55 (j := 1904) C dX11_readHunger_46 (by decide) (by decide) rfl ?_
    exact g_vret C R dX11_readHunger_47 (Option.some.inj h)
  · exact g_vret C R dX11_readHunger_27 (Option.some.inj h)
set_option maxRecDepth 20000 in
set_option maxHeartbeats 2000000 in
theorem c_X11_readHunger (E : wEnv) {M : Mem} {q : Mem} (h : f_X11_readHunger M = some q) : Mt E yX11_readHunger cX11_readHunger 1 none 3 [.ref (ad E 50 0)] M none q := by
  unfold f_X11_readHunger at h
  refine mt_intro (own := RX11) (lv0 := [(0, .ref (ad E 50 0))]) (by decide) rfl rfl rfl (fun Y C R => ?_)
  refine g_aload_n C dX11_readHunger_0 rfl rfl ?_
  refine get_X11_35 C dX11_readHunger_1 (by decide) ?_
  refine g_sipush (v := (1904 : Int32)) C dX11_readHunger_4 (by decide) ?_
  refine ld_55 (j := 1904) C dX11_readHunger_7 (by decide) (by decide) rfl ?_
  refine g_if_le (tgt := 20) C dX11_readHunger_8 (by decide) h (fun h => ?_) (fun h => ?_)
  · exact g_sub (b_X11_readHunger_20 C R h) ⟨rfl, trivial⟩
  · refine g_aload_n C dX11_readHunger_11 rfl rfl ?_
    refine g_iconst (v := (5 : Int32)) C dX11_readHunger_12 (by decide) ?_
    refine g_aload_n C dX11_readHunger_13 rfl rfl ?_
    refine get_X11_120 C dX11_readHunger_14 (by decide) ?_
    obtain ⟨M4, hr4, h⟩ := Option.bind_eq_some_iff.mp h
    refine call_X11_235 C dX11_readHunger_17 (by decide) (c_X11_fail E hr4) (by decide) rfl ?_
    exact g_sub (b_X11_readHunger_20 C R h) ⟨rfl, trivial⟩
noncomputable def f_X11_readLaw_16 (M : Mem) : Option Mem :=
  if 0 < (M.1 50 0 12) then
    some M
  else
    let M1 := sR M 50 0 (upd (M.1 50 0) 24 (1 : Int32))
    (f_X11_next M1).bind fun M2 =>
    (f_X11_lawWord M2).bind fun r3 =>
    let M4 := sR M2 55 0 (upd (M2.1 55 0) 1905 (jmax (0 : Int32) r3))
    (f_X11_lawWord M4).bind fun r5 =>
    if r5 < 0 then
      (f_X11_must (0 : Int32) M4).bind fun M6 =>
      some M6
    else
      (f_X11_must (1 : Int32) M4).bind fun M7 =>
      some M7
noncomputable def f_X11_readLaw (M : Mem) : Option Mem :=
  if (M.1 50 0 24) = 0 then
    f_X11_readLaw_16 M
  else
    (f_X11_fail (5 : Int32) (M.1 50 0 15) M).bind fun M8 =>
    f_X11_readLaw_16 M8
set_option maxRecDepth 20000 in
set_option maxHeartbeats 2000000 in
theorem b_X11_readLaw_16 {E : wEnv} {Y : YT} (C : Cx E Y cX11_readLaw 1 RX11 3) {q : Mem} (R : Rx E Y none none q) {M : Mem} (h : f_X11_readLaw_16 M = some q) : G E Y 1 M 16 [(0, .ref (ad E 50 0))] [] := by
  unfold f_X11_readLaw_16 at h
  refine g_aload_n C dX11_readLaw_16 rfl rfl ?_
  refine get_X11_229 C dX11_readLaw_17 (by decide) ?_
  refine g_if_le (tgt := 24) C dX11_readLaw_20 (by decide) h (fun h => ?_) (fun h => ?_)
  · refine g_aload_n C dX11_readLaw_24 rfl rfl ?_
    refine g_iconst (v := (1 : Int32)) C dX11_readLaw_25 (by decide) ?_
    refine put_X11_283 C dX11_readLaw_26 (by decide) (Or.inr rfl) ?_
    refine g_aload_n C dX11_readLaw_29 rfl rfl ?_
    obtain ⟨M2, hr2, h⟩ := Option.bind_eq_some_iff.mp h
    refine call_X11_239 C dX11_readLaw_30 (by decide) (c_X11_next E hr2) (by decide) rfl ?_
    refine g_aload_n C dX11_readLaw_33 rfl rfl ?_
    refine get_X11_35 C dX11_readLaw_34 (by decide) ?_
    refine g_sipush (v := (1905 : Int32)) C dX11_readLaw_37 (by decide) ?_
    refine g_iconst (v := (0 : Int32)) C dX11_readLaw_40 (by decide) ?_
    refine g_aload_n C dX11_readLaw_41 rfl rfl ?_
    obtain ⟨r3, hr3, h⟩ := Option.bind_eq_some_iff.mp h
    refine call_X11_213 C dX11_readLaw_42 (by decide) (c_X11_lawWord E hr3) (by decide) rfl ?_
    refine call_X11_264 C dX11_readLaw_45 (by decide) rfl ?_
    refine st_55 (j := 1905) C dX11_readLaw_48 (by decide) (by decide) rfl ?_
    refine g_aload_n C dX11_readLaw_49 rfl rfl ?_
    refine g_aload_n C dX11_readLaw_50 rfl rfl ?_
    obtain ⟨r5, hr5, h⟩ := Option.bind_eq_some_iff.mp h
    refine call_X11_213 C dX11_readLaw_51 (by decide) (c_X11_lawWord E hr5) (by decide) rfl ?_
    refine g_if_lt (tgt := 61) C dX11_readLaw_54 (by decide) h (fun h => ?_) (fun h => ?_)
    · refine g_iconst (v := (0 : Int32)) C dX11_readLaw_61 (by decide) ?_
      obtain ⟨M6, hr6, h⟩ := Option.bind_eq_some_iff.mp h
      refine call_X11_270 C dX11_readLaw_62 (by decide) (c_X11_must E hr6) (by decide) rfl ?_
      exact g_vret C R dX11_readLaw_65 (Option.some.inj h)
    · refine g_iconst (v := (1 : Int32)) C dX11_readLaw_57 (by decide) ?_
      refine g_goto (tgt := 62) C dX11_readLaw_58 (by decide) ?_
      obtain ⟨M7, hr7, h⟩ := Option.bind_eq_some_iff.mp h
      refine call_X11_270 C dX11_readLaw_62 (by decide) (c_X11_must E hr7) (by decide) rfl ?_
      exact g_vret C R dX11_readLaw_65 (Option.some.inj h)
  · exact g_vret C R dX11_readLaw_23 (Option.some.inj h)
set_option maxRecDepth 20000 in
set_option maxHeartbeats 2000000 in
theorem c_X11_readLaw (E : wEnv) {M : Mem} {q : Mem} (h : f_X11_readLaw M = some q) : Mt E yX11_readLaw cX11_readLaw 1 none 3 [.ref (ad E 50 0)] M none q := by
  unfold f_X11_readLaw at h
  refine mt_intro (own := RX11) (lv0 := [(0, .ref (ad E 50 0))]) (by decide) rfl rfl rfl (fun Y C R => ?_)
  refine g_aload_n C dX11_readLaw_0 rfl rfl ?_
  refine get_X11_283 C dX11_readLaw_1 (by decide) ?_
  refine g_if_eq (tgt := 16) C dX11_readLaw_4 (by decide) h (fun h => ?_) (fun h => ?_)
  · exact g_sub (b_X11_readLaw_16 C R h) ⟨rfl, trivial⟩
  · refine g_aload_n C dX11_readLaw_7 rfl rfl ?_
    refine g_iconst (v := (5 : Int32)) C dX11_readLaw_8 (by decide) ?_
    refine g_aload_n C dX11_readLaw_9 rfl rfl ?_
    refine get_X11_120 C dX11_readLaw_10 (by decide) ?_
    obtain ⟨M8, hr8, h⟩ := Option.bind_eq_some_iff.mp h
    refine call_X11_235 C dX11_readLaw_13 (by decide) (c_X11_fail E hr8) (by decide) rfl ?_
    exact g_sub (b_X11_readLaw_16 C R h) ⟨rfl, trivial⟩
noncomputable def f_X11_copy_41 (x1 : Int32) (x2 : Int32) : Nat → Int32 → Mem → Option Mem
  | 0, _, _ => none
  | n + 1, x3, M =>
  if x3 < (26 : Int32) then
    if inb (((26 : Int32) * x1) + x3) 130 = true then
     if inb (((26 : Int32) * x2) + x3) 130 = true then
      let M3 := sL M 57 0 (vp_updL (M.2 57 0) ((((26 : Int32) * x2) + x3).toNatClampNeg) (M.2 57 0 ((((26 : Int32) * x1) + x3).toNatClampNeg)))
      f_X11_copy_41 x1 x2 n (x3 + (1 : Int32)) M3
     else none
    else none
  else
    some M
noncomputable def f_X11_copy_2 (x1 : Int32) (x2 : Int32) : Nat → Int32 → Mem → Option Mem
  | 0, _, _ => none
  | n + 1, x3, M =>
  if x3 < (475 : Int32) then
    if inb (((475 : Int32) * x1) + x3) 2375 = true then
     if inb (((475 : Int32) * x2) + x3) 2375 = true then
      let M6 := sR M 55 0 (upd (M.1 55 0) ((((475 : Int32) * x2) + x3).toNatClampNeg) (M.1 55 0 ((((475 : Int32) * x1) + x3).toNatClampNeg)))
      f_X11_copy_2 x1 x2 n (x3 + (1 : Int32)) M6
     else none
    else none
  else
    f_X11_copy_41 x1 x2 FU (0 : Int32) M
noncomputable def f_X11_copy (x1 : Int32) (x2 : Int32) (M : Mem) : Option Mem :=
  f_X11_copy_2 x1 x2 FU (0 : Int32) M
set_option maxRecDepth 20000 in
set_option maxHeartbeats 2000000 in
theorem b_X11_copy_41 {E : wEnv} {Y : YT} (C : Cx E Y cX11_copy 4 RX11 0) {q : Mem} (R : Rx E Y none none q) {x1 : Int32} {x2 : Int32} (n : Nat) : ∀ {x3 : Int32} {M : Mem} (_ : f_X11_copy_41 x1 x2 n x3 M = some q), G E Y 4 M 41 [(0, .ref (ad E 50 0)), (1, .int x1), (2, .int x2), (3, .int x3)] [] := by
  induction n with
  | zero =>
    intro x3 M h
    cases (show none = some q from h)
  | succ n ih =>
    intro x3 M h
    rw [f_X11_copy_41] at h
    refine g_iload_n C dX11_copy_41 rfl rfl ?_
    refine g_bipush (v := (26 : Int32)) C dX11_copy_42 (by decide) ?_
    refine g_icmp_ge (tgt := 75) C dX11_copy_44 (by decide) h (fun h => ?_) (fun h => ?_)
    · exact g_vret C R dX11_copy_75 (Option.some.inj h)
    · refine g_aload_n C dX11_copy_47 rfl rfl ?_
      refine get_X11_41 C dX11_copy_48 (by decide) ?_
      refine g_bipush (v := (26 : Int32)) C dX11_copy_51 (by decide) ?_
      refine g_iload_n C dX11_copy_53 rfl rfl ?_
      refine g_imul C dX11_copy_54 ?_
      refine g_iload_n C dX11_copy_55 rfl rfl ?_
      refine g_iadd C dX11_copy_56 ?_
      refine g_aload_n C dX11_copy_57 rfl rfl ?_
      refine get_X11_41 C dX11_copy_58 (by decide) ?_
      refine g_bipush (v := (26 : Int32)) C dX11_copy_61 (by decide) ?_
      refine g_iload_n C dX11_copy_63 rfl rfl ?_
      refine g_imul C dX11_copy_64 ?_
      refine g_iload_n C dX11_copy_65 rfl rfl ?_
      refine g_iadd C dX11_copy_66 ?_
      obtain ⟨hb1, h⟩ := of_ite h
      refine ld_57 (j := _) C dX11_copy_67 (by decide) hb1 rfl ?_
      obtain ⟨hb2, h⟩ := of_ite h
      refine st_57 (j := _) C dX11_copy_68 (by decide) hb2 rfl ?_
      refine g_iinc (w := (1 : Int32)) C dX11_copy_69 rfl (by decide) rfl ?_
      refine g_goto (tgt := 41) C dX11_copy_72 (by decide) ?_
      exact g_sub (ih h) ⟨rfl, rfl, rfl, rfl, trivial⟩
set_option maxRecDepth 20000 in
set_option maxHeartbeats 2000000 in
theorem b_X11_copy_2 {E : wEnv} {Y : YT} (C : Cx E Y cX11_copy 4 RX11 0) {q : Mem} (R : Rx E Y none none q) {x1 : Int32} {x2 : Int32} (n : Nat) : ∀ {x3 : Int32} {M : Mem} (_ : f_X11_copy_2 x1 x2 n x3 M = some q), G E Y 4 M 2 [(0, .ref (ad E 50 0)), (1, .int x1), (2, .int x2), (3, .int x3)] [] := by
  induction n with
  | zero =>
    intro x3 M h
    cases (show none = some q from h)
  | succ n ih =>
    intro x3 M h
    rw [f_X11_copy_2] at h
    refine g_iload_n C dX11_copy_2 rfl rfl ?_
    refine g_sipush (v := (475 : Int32)) C dX11_copy_3 (by decide) ?_
    refine g_icmp_ge (tgt := 39) C dX11_copy_6 (by decide) h (fun h => ?_) (fun h => ?_)
    · refine g_iconst (v := (0 : Int32)) C dX11_copy_39 (by decide) ?_
      refine g_istore_n C dX11_copy_40 rfl rfl ?_
      exact g_sub (b_X11_copy_41 C R _ h) ⟨rfl, rfl, rfl, rfl, trivial⟩
    · refine g_aload_n C dX11_copy_9 rfl rfl ?_
      refine get_X11_35 C dX11_copy_10 (by decide) ?_
      refine g_sipush (v := (475 : Int32)) C dX11_copy_13 (by decide) ?_
      refine g_iload_n C dX11_copy_16 rfl rfl ?_
      refine g_imul C dX11_copy_17 ?_
      refine g_iload_n C dX11_copy_18 rfl rfl ?_
      refine g_iadd C dX11_copy_19 ?_
      refine g_aload_n C dX11_copy_20 rfl rfl ?_
      refine get_X11_35 C dX11_copy_21 (by decide) ?_
      refine g_sipush (v := (475 : Int32)) C dX11_copy_24 (by decide) ?_
      refine g_iload_n C dX11_copy_27 rfl rfl ?_
      refine g_imul C dX11_copy_28 ?_
      refine g_iload_n C dX11_copy_29 rfl rfl ?_
      refine g_iadd C dX11_copy_30 ?_
      obtain ⟨hb4, h⟩ := of_ite h
      refine ld_55 (j := _) C dX11_copy_31 (by decide) hb4 rfl ?_
      obtain ⟨hb5, h⟩ := of_ite h
      refine st_55 (j := _) C dX11_copy_32 (by decide) hb5 rfl ?_
      refine g_iinc (w := (1 : Int32)) C dX11_copy_33 rfl (by decide) rfl ?_
      refine g_goto (tgt := 2) C dX11_copy_36 (by decide) ?_
      exact g_sub (ih h) ⟨rfl, rfl, rfl, rfl, trivial⟩
set_option maxRecDepth 20000 in
set_option maxHeartbeats 2000000 in
theorem c_X11_copy (E : wEnv) {x1 : Int32} {x2 : Int32} {M : Mem} {q : Mem} (h : f_X11_copy x1 x2 M = some q) : Mt E yX11_copy cX11_copy 4 none 0 [.ref (ad E 50 0), .int x1, .int x2] M none q := by
  unfold f_X11_copy at h
  refine mt_intro (own := RX11) (lv0 := [(0, .ref (ad E 50 0)), (1, .int x1), (2, .int x2)]) (by decide) rfl rfl rfl (fun Y C R => ?_)
  refine g_iconst (v := (0 : Int32)) C dX11_copy_0 (by decide) ?_
  refine g_istore_n C dX11_copy_1 rfl rfl ?_
  exact g_sub (b_X11_copy_2 C R _ h) ⟨rfl, rfl, rfl, rfl, trivial⟩
noncomputable def f_X11_court_197 (M : Mem) : Option (Int32 × Mem) :=
  (f_X11_isWell M).bind fun q5 =>
  if q5.1 = 0 then
    some ((-1 : Int32), q5.2)
  else
    let M6 := sR q5.2 55 0 (upd (q5.2.1 55 0) 1910 (((1 : Int32) <<< ((q5.2.1 55 0 1900) &&& 31)) - (1 : Int32)))
    if (M6.1 55 0 1902) = 0 then
      let M9 := sR M6 55 0 (upd (M6.1 55 0) 1908 (-1 : Int32))
      (f_X11_copy (4 : Int32) (0 : Int32) M9).bind fun M10 =>
      some ((M10.1 55 0 0), M10)
    else
      let M7 := sR M6 55 0 (upd (M6.1 55 0) 1908 (0 : Int32))
      (f_X11_copy (4 : Int32) (0 : Int32) M7).bind fun M8 =>
      some ((M8.1 55 0 0), M8)
noncomputable def f_X11_court_184 (k54 : Mem → Option (Int32 × Mem)) (M : Mem) : Option (Int32 × Mem) :=
  (f_X11_isSign (59 : Int32) M).bind fun r20 =>
  (f_X11_must r20 M).bind fun M21 =>
  k54 M21
noncomputable def f_X11_court_54 : Nat → Mem → Option (Int32 × Mem)
  | 0, _ => none
  | n + 1, M =>
  if (M.1 50 0 12) = 0 then
    if (M.1 50 0 14) = 0 then
      f_X11_court_197 M
    else
      (f_X11_isJuror M).bind fun r11 =>
      if r11 = 0 then
        (f_X11_isSways M).bind fun r12 =>
        if r12 = 0 then
          (f_X11_isProof M).bind fun r13 =>
          if r13 = 0 then
            (f_X11_isWeather M).bind fun r14 =>
            if r14 = 0 then
              (f_X11_isFollows M).bind fun r15 =>
              if r15 = 0 then
                (f_X11_isCrop M).bind fun r16 =>
                if r16 = 0 then
                  (f_X11_isHunger M).bind fun r17 =>
                  if r17 = 0 then
                    (f_X11_isLaw M).bind fun r18 =>
                    if r18 = 0 then
                      (f_X11_wrong M).bind fun M19 =>
                      f_X11_court_184 (fun M_22 =>
                          f_X11_court_54 n M_22) M19
                    else
                      (f_X11_readLaw M).bind fun M23 =>
                      f_X11_court_184 (fun M_24 =>
                          f_X11_court_54 n M_24) M23
                  else
                    (f_X11_readHunger M).bind fun M25 =>
                    f_X11_court_184 (fun M_26 =>
                        f_X11_court_54 n M_26) M25
                else
                  (f_X11_readCrop M).bind fun M27 =>
                  f_X11_court_184 (fun M_28 =>
                      f_X11_court_54 n M_28) M27
              else
                (f_X11_readFollows M).bind fun M29 =>
                f_X11_court_184 (fun M_30 =>
                    f_X11_court_54 n M_30) M29
            else
              (f_X11_readWeather M).bind fun M31 =>
              f_X11_court_184 (fun M_32 =>
                  f_X11_court_54 n M_32) M31
          else
            (f_X11_readProof M).bind fun M33 =>
            f_X11_court_184 (fun M_34 =>
                f_X11_court_54 n M_34) M33
        else
          (f_X11_readSways M).bind fun M35 =>
          f_X11_court_184 (fun M_36 =>
              f_X11_court_54 n M_36) M35
      else
        (f_X11_readJuror M).bind fun M37 =>
        f_X11_court_184 (fun M_38 =>
            f_X11_court_54 n M_38) M37
  else
    f_X11_court_197 M
noncomputable def f_X11_court_25 : Nat → Int32 → Mem → Option (Int32 × Mem)
  | 0, _, _ => none
  | n + 1, x2, M =>
  if x2 < (475 : Int32) then
    if inb ((1900 : Int32) + x2) 2375 = true then
     let M40 := sR M 55 0 (upd (M.1 55 0) (((1900 : Int32) + x2).toNatClampNeg) (0 : Int32))
     f_X11_court_25 n (x2 + (1 : Int32)) M40
    else none
  else
    let M4 := sR M 50 0 (upd (M.1 50 0) 24 (0 : Int32))
    f_X11_court_54 FU M4
noncomputable def f_X11_court (x1 : Int32) (M : Mem) : Option (Int32 × Mem) :=
  let M1 := sR M 50 0 (upd (M.1 50 0) 1 (0 : Int32))
  let M2 := sR M1 50 0 (upd (M1.1 50 0) 0 (0 : Int32))
  (f_X11_starts x1 (900 : Int32) M2).bind fun q3 =>
  if q3.1 = 0 then
    some ((-1 : Int32), q3.2)
  else
    f_X11_court_25 FU (0 : Int32) q3.2
set_option maxRecDepth 20000 in
set_option maxHeartbeats 2000000 in
theorem b_X11_court_197 {E : wEnv} {Y : YT} (C : Cx E Y cX11_court 3 RX11 8) {q : (Int32 × Mem)} (R : Rx E Y (some .int) (some (.int q.1)) q.2) {M : Mem} (h : f_X11_court_197 M = some q) : G E Y 3 M 197 [(0, .ref (ad E 50 0))] [] := by
  unfold f_X11_court_197 at h
  refine g_aload_n C dX11_court_197 rfl rfl ?_
  obtain ⟨q5, hr5, h⟩ := Option.bind_eq_some_iff.mp h
  refine call_X11_317 C dX11_court_198 (by decide) (c_X11_isWell E hr5) (by decide) rfl ?_
  refine g_if_ne (tgt := 206) C dX11_court_201 (by decide) h (fun h => ?_) (fun h => ?_)
  · refine g_aload_n C dX11_court_206 rfl rfl ?_
    refine get_X11_35 C dX11_court_207 (by decide) ?_
    refine g_sipush (v := (1910 : Int32)) C dX11_court_210 (by decide) ?_
    refine g_iconst (v := (1 : Int32)) C dX11_court_213 (by decide) ?_
    refine g_aload_n C dX11_court_214 rfl rfl ?_
    refine get_X11_35 C dX11_court_215 (by decide) ?_
    refine g_sipush (v := (1900 : Int32)) C dX11_court_218 (by decide) ?_
    refine ld_55 (j := 1900) C dX11_court_221 (by decide) (by decide) rfl ?_
    refine g_ishl C dX11_court_222 ?_
    refine g_iconst (v := (1 : Int32)) C dX11_court_223 (by decide) ?_
    refine g_isub C dX11_court_224 ?_
    refine st_55 (j := 1910) C dX11_court_225 (by decide) (by decide) rfl ?_
    refine g_aload_n C dX11_court_226 rfl rfl ?_
    refine get_X11_35 C dX11_court_227 (by decide) ?_
    refine g_sipush (v := (1908 : Int32)) C dX11_court_230 (by decide) ?_
    refine g_aload_n C dX11_court_233 rfl rfl ?_
    refine get_X11_35 C dX11_court_234 (by decide) ?_
    refine g_sipush (v := (1902 : Int32)) C dX11_court_237 (by decide) ?_
    refine ld_55 (j := 1902) C dX11_court_240 (by decide) (by decide) rfl ?_
    refine g_if_ne (tgt := 248) C dX11_court_241 (by decide) h (fun h => ?_) (fun h => ?_)
    · refine g_iconst (v := (0 : Int32)) C dX11_court_248 (by decide) ?_
      refine st_55 (j := 1908) C dX11_court_249 (by decide) (by decide) rfl ?_
      refine g_aload_n C dX11_court_250 rfl rfl ?_
      refine g_iconst (v := (4 : Int32)) C dX11_court_251 (by decide) ?_
      refine g_iconst (v := (0 : Int32)) C dX11_court_252 (by decide) ?_
      obtain ⟨M8, hr8, h⟩ := Option.bind_eq_some_iff.mp h
      refine call_X11_320 C dX11_court_253 (by decide) (c_X11_copy E hr8) (by decide) rfl ?_
      refine g_aload_n C dX11_court_256 rfl rfl ?_
      refine get_X11_35 C dX11_court_257 (by decide) ?_
      refine g_iconst (v := (0 : Int32)) C dX11_court_260 (by decide) ?_
      refine ld_55 (j := 0) C dX11_court_261 (by decide) (by decide) rfl ?_
      exact g_iret C R dX11_court_262 (fst_of h) (snd_of h)
    · refine g_iconst (v := (-1 : Int32)) C dX11_court_244 (by decide) ?_
      refine g_goto (tgt := 249) C dX11_court_245 (by decide) ?_
      refine st_55 (j := 1908) C dX11_court_249 (by decide) (by decide) rfl ?_
      refine g_aload_n C dX11_court_250 rfl rfl ?_
      refine g_iconst (v := (4 : Int32)) C dX11_court_251 (by decide) ?_
      refine g_iconst (v := (0 : Int32)) C dX11_court_252 (by decide) ?_
      obtain ⟨M10, hr10, h⟩ := Option.bind_eq_some_iff.mp h
      refine call_X11_320 C dX11_court_253 (by decide) (c_X11_copy E hr10) (by decide) rfl ?_
      refine g_aload_n C dX11_court_256 rfl rfl ?_
      refine get_X11_35 C dX11_court_257 (by decide) ?_
      refine g_iconst (v := (0 : Int32)) C dX11_court_260 (by decide) ?_
      refine ld_55 (j := 0) C dX11_court_261 (by decide) (by decide) rfl ?_
      exact g_iret C R dX11_court_262 (fst_of h) (snd_of h)
  · refine g_iconst (v := (-1 : Int32)) C dX11_court_204 (by decide) ?_
    exact g_iret C R dX11_court_205 (fst_of h) (snd_of h)
set_option maxRecDepth 20000 in
set_option maxHeartbeats 2000000 in
theorem b_X11_court_184 {E : wEnv} {Y : YT} (C : Cx E Y cX11_court 3 RX11 8) {q : (Int32 × Mem)} (R : Rx E Y (some .int) (some (.int q.1)) q.2) {k54 : Mem → Option (Int32 × Mem)} (hk54 : ∀ {M : Mem} , k54 M = some q → G E Y 3 M 54 [(0, .ref (ad E 50 0))] []) {M : Mem} (h : f_X11_court_184 k54 M = some q) : G E Y 3 M 184 [(0, .ref (ad E 50 0))] [] := by
  unfold f_X11_court_184 at h
  refine g_aload_n C dX11_court_184 rfl rfl ?_
  refine g_aload_n C dX11_court_185 rfl rfl ?_
  refine g_bipush (v := (59 : Int32)) C dX11_court_186 (by decide) ?_
  obtain ⟨r20, hr20, h⟩ := Option.bind_eq_some_iff.mp h
  refine call_X11_314 C dX11_court_188 (by decide) (c_X11_isSign E hr20) (by decide) rfl ?_
  obtain ⟨M21, hr21, h⟩ := Option.bind_eq_some_iff.mp h
  refine call_X11_270 C dX11_court_191 (by decide) (c_X11_must E hr21) (by decide) rfl ?_
  refine g_goto (tgt := 54) C dX11_court_194 (by decide) ?_
  exact g_sub (hk54 h) ⟨rfl, trivial⟩
set_option maxRecDepth 20000 in
set_option maxHeartbeats 2000000 in
theorem b_X11_court_54 {E : wEnv} {Y : YT} (C : Cx E Y cX11_court 3 RX11 8) {q : (Int32 × Mem)} (R : Rx E Y (some .int) (some (.int q.1)) q.2) (n : Nat) : ∀ {M : Mem} (_ : f_X11_court_54 n M = some q), G E Y 3 M 54 [(0, .ref (ad E 50 0))] [] := by
  induction n with
  | zero =>
    intro M h
    cases (show none = some q from h)
  | succ n ih =>
    intro M h
    rw [f_X11_court_54] at h
    refine g_aload_n C dX11_court_54 rfl rfl ?_
    refine get_X11_229 C dX11_court_55 (by decide) ?_
    refine g_if_ne (tgt := 197) C dX11_court_58 (by decide) h (fun h => ?_) (fun h => ?_)
    · exact g_sub (b_X11_court_197 C R h) ⟨rfl, trivial⟩
    · refine g_aload_n C dX11_court_61 rfl rfl ?_
      refine get_X11_126 C dX11_court_62 (by decide) ?_
      refine g_if_eq (tgt := 197) C dX11_court_65 (by decide) h (fun h => ?_) (fun h => ?_)
      · exact g_sub (b_X11_court_197 C R h) ⟨rfl, trivial⟩
      · refine g_aload_n C dX11_court_68 rfl rfl ?_
        obtain ⟨r11, hr11, h⟩ := Option.bind_eq_some_iff.mp h
        refine call_X11_174 C dX11_court_69 (by decide) (c_X11_isJuror E hr11) (by decide) rfl ?_
        refine g_if_eq (tgt := 82) C dX11_court_72 (by decide) h (fun h => ?_) (fun h => ?_)
        · refine g_aload_n C dX11_court_82 rfl rfl ?_
          obtain ⟨r12, hr12, h⟩ := Option.bind_eq_some_iff.mp h
          refine call_X11_189 C dX11_court_83 (by decide) (c_X11_isSways E hr12) (by decide) rfl ?_
          refine g_if_eq (tgt := 96) C dX11_court_86 (by decide) h (fun h => ?_) (fun h => ?_)
          · refine g_aload_n C dX11_court_96 rfl rfl ?_
            obtain ⟨r13, hr13, h⟩ := Option.bind_eq_some_iff.mp h
            refine call_X11_192 C dX11_court_97 (by decide) (c_X11_isProof E hr13) (by decide) rfl ?_
            refine g_if_eq (tgt := 110) C dX11_court_100 (by decide) h (fun h => ?_) (fun h => ?_)
            · refine g_aload_n C dX11_court_110 rfl rfl ?_
              obtain ⟨r14, hr14, h⟩ := Option.bind_eq_some_iff.mp h
              refine call_X11_167 C dX11_court_111 (by decide) (c_X11_isWeather E hr14) (by decide) rfl ?_
              refine g_if_eq (tgt := 124) C dX11_court_114 (by decide) h (fun h => ?_) (fun h => ?_)
              · refine g_aload_n C dX11_court_124 rfl rfl ?_
                obtain ⟨r15, hr15, h⟩ := Option.bind_eq_some_iff.mp h
                refine call_X11_195 C dX11_court_125 (by decide) (c_X11_isFollows E hr15) (by decide) rfl ?_
                refine g_if_eq (tgt := 138) C dX11_court_128 (by decide) h (fun h => ?_) (fun h => ?_)
                · refine g_aload_n C dX11_court_138 rfl rfl ?_
                  obtain ⟨r16, hr16, h⟩ := Option.bind_eq_some_iff.mp h
                  refine call_X11_171 C dX11_court_139 (by decide) (c_X11_isCrop E hr16) (by decide) rfl ?_
                  refine g_if_eq (tgt := 152) C dX11_court_142 (by decide) h (fun h => ?_) (fun h => ?_)
                  · refine g_aload_n C dX11_court_152 rfl rfl ?_
                    obtain ⟨r17, hr17, h⟩ := Option.bind_eq_some_iff.mp h
                    refine call_X11_207 C dX11_court_153 (by decide) (c_X11_isHunger E hr17) (by decide) rfl ?_
                    refine g_if_eq (tgt := 166) C dX11_court_156 (by decide) h (fun h => ?_) (fun h => ?_)
                    · refine g_aload_n C dX11_court_166 rfl rfl ?_
                      obtain ⟨r18, hr18, h⟩ := Option.bind_eq_some_iff.mp h
                      refine call_X11_210 C dX11_court_167 (by decide) (c_X11_isLaw E hr18) (by decide) rfl ?_
                      refine g_if_eq (tgt := 180) C dX11_court_170 (by decide) h (fun h => ?_) (fun h => ?_)
                      · refine g_aload_n C dX11_court_180 rfl rfl ?_
                        obtain ⟨M19, hr19, h⟩ := Option.bind_eq_some_iff.mp h
                        refine call_X11_242 C dX11_court_181 (by decide) (c_X11_wrong E hr19) (by decide) rfl ?_
                        refine g_sub (b_X11_court_184 C R ?_  h) ⟨rfl, trivial⟩
                        · clear h
                          intro M_22 h
                          exact g_sub (ih h) ⟨rfl, trivial⟩
                      · refine g_aload_n C dX11_court_173 rfl rfl ?_
                        obtain ⟨M23, hr23, h⟩ := Option.bind_eq_some_iff.mp h
                        refine call_X11_311 C dX11_court_174 (by decide) (c_X11_readLaw E hr23) (by decide) rfl ?_
                        refine g_goto (tgt := 184) C dX11_court_177 (by decide) ?_
                        refine g_sub (b_X11_court_184 C R ?_  h) ⟨rfl, trivial⟩
                        · clear h
                          intro M_24 h
                          exact g_sub (ih h) ⟨rfl, trivial⟩
                    · refine g_aload_n C dX11_court_159 rfl rfl ?_
                      obtain ⟨M25, hr25, h⟩ := Option.bind_eq_some_iff.mp h
                      refine call_X11_308 C dX11_court_160 (by decide) (c_X11_readHunger E hr25) (by decide) rfl ?_
                      refine g_goto (tgt := 184) C dX11_court_163 (by decide) ?_
                      refine g_sub (b_X11_court_184 C R ?_  h) ⟨rfl, trivial⟩
                      · clear h
                        intro M_26 h
                        exact g_sub (ih h) ⟨rfl, trivial⟩
                  · refine g_aload_n C dX11_court_145 rfl rfl ?_
                    obtain ⟨M27, hr27, h⟩ := Option.bind_eq_some_iff.mp h
                    refine call_X11_305 C dX11_court_146 (by decide) (c_X11_readCrop E hr27) (by decide) rfl ?_
                    refine g_goto (tgt := 184) C dX11_court_149 (by decide) ?_
                    refine g_sub (b_X11_court_184 C R ?_  h) ⟨rfl, trivial⟩
                    · clear h
                      intro M_28 h
                      exact g_sub (ih h) ⟨rfl, trivial⟩
                · refine g_aload_n C dX11_court_131 rfl rfl ?_
                  obtain ⟨M29, hr29, h⟩ := Option.bind_eq_some_iff.mp h
                  refine call_X11_302 C dX11_court_132 (by decide) (c_X11_readFollows E hr29) (by decide) rfl ?_
                  refine g_goto (tgt := 184) C dX11_court_135 (by decide) ?_
                  refine g_sub (b_X11_court_184 C R ?_  h) ⟨rfl, trivial⟩
                  · clear h
                    intro M_30 h
                    exact g_sub (ih h) ⟨rfl, trivial⟩
              · refine g_aload_n C dX11_court_117 rfl rfl ?_
                obtain ⟨M31, hr31, h⟩ := Option.bind_eq_some_iff.mp h
                refine call_X11_299 C dX11_court_118 (by decide) (c_X11_readWeather E hr31) (by decide) rfl ?_
                refine g_goto (tgt := 184) C dX11_court_121 (by decide) ?_
                refine g_sub (b_X11_court_184 C R ?_  h) ⟨rfl, trivial⟩
                · clear h
                  intro M_32 h
                  exact g_sub (ih h) ⟨rfl, trivial⟩
            · refine g_aload_n C dX11_court_103 rfl rfl ?_
              obtain ⟨M33, hr33, h⟩ := Option.bind_eq_some_iff.mp h
              refine call_X11_296 C dX11_court_104 (by decide) (c_X11_readProof E hr33) (by decide) rfl ?_
              refine g_goto (tgt := 184) C dX11_court_107 (by decide) ?_
              refine g_sub (b_X11_court_184 C R ?_  h) ⟨rfl, trivial⟩
              · clear h
                intro M_34 h
                exact g_sub (ih h) ⟨rfl, trivial⟩
          · refine g_aload_n C dX11_court_89 rfl rfl ?_
            obtain ⟨M35, hr35, h⟩ := Option.bind_eq_some_iff.mp h
            refine call_X11_293 C dX11_court_90 (by decide) (c_X11_readSways E hr35) (by decide) rfl ?_
            refine g_goto (tgt := 184) C dX11_court_93 (by decide) ?_
            refine g_sub (b_X11_court_184 C R ?_  h) ⟨rfl, trivial⟩
            · clear h
              intro M_36 h
              exact g_sub (ih h) ⟨rfl, trivial⟩
        · refine g_aload_n C dX11_court_75 rfl rfl ?_
          obtain ⟨M37, hr37, h⟩ := Option.bind_eq_some_iff.mp h
          refine call_X11_290 C dX11_court_76 (by decide) (c_X11_readJuror E hr37) (by decide) rfl ?_
          refine g_goto (tgt := 184) C dX11_court_79 (by decide) ?_
          refine g_sub (b_X11_court_184 C R ?_  h) ⟨rfl, trivial⟩
          · clear h
            intro M_38 h
            exact g_sub (ih h) ⟨rfl, trivial⟩
set_option maxRecDepth 20000 in
set_option maxHeartbeats 2000000 in
theorem b_X11_court_25 {E : wEnv} {Y : YT} (C : Cx E Y cX11_court 3 RX11 8) {q : (Int32 × Mem)} (R : Rx E Y (some .int) (some (.int q.1)) q.2) (n : Nat) : ∀ {x2 : Int32} {M : Mem} (_ : f_X11_court_25 n x2 M = some q), G E Y 3 M 25 [(0, .ref (ad E 50 0)), (2, .int x2)] [] := by
  induction n with
  | zero =>
    intro x2 M h
    cases (show none = some q from h)
  | succ n ih =>
    intro x2 M h
    rw [f_X11_court_25] at h
    refine g_iload_n C dX11_court_25 rfl rfl ?_
    refine g_sipush (v := (475 : Int32)) C dX11_court_26 (by decide) ?_
    refine g_icmp_ge (tgt := 49) C dX11_court_29 (by decide) h (fun h => ?_) (fun h => ?_)
    · refine g_aload_n C dX11_court_49 rfl rfl ?_
      refine g_iconst (v := (0 : Int32)) C dX11_court_50 (by decide) ?_
      refine put_X11_283 C dX11_court_51 (by decide) (Or.inl rfl) ?_
      exact g_sub (b_X11_court_54 C R _ h) ⟨rfl, trivial⟩
    · refine g_aload_n C dX11_court_32 rfl rfl ?_
      refine get_X11_35 C dX11_court_33 (by decide) ?_
      refine g_sipush (v := (1900 : Int32)) C dX11_court_36 (by decide) ?_
      refine g_iload_n C dX11_court_39 rfl rfl ?_
      refine g_iadd C dX11_court_40 ?_
      refine g_iconst (v := (0 : Int32)) C dX11_court_41 (by decide) ?_
      obtain ⟨hb39, h⟩ := of_ite h
      refine st_55 (j := _) C dX11_court_42 (by decide) hb39 rfl ?_
      refine g_iinc (w := (1 : Int32)) C dX11_court_43 rfl (by decide) rfl ?_
      refine g_goto (tgt := 25) C dX11_court_46 (by decide) ?_
      exact g_sub (ih h) ⟨rfl, rfl, trivial⟩
set_option maxRecDepth 20000 in
set_option maxHeartbeats 2000000 in
theorem c_X11_court (E : wEnv) {x1 : Int32} {M : Mem} {q : (Int32 × Mem)} (h : f_X11_court x1 M = some q) : Mt E yX11_court cX11_court 3 (some .int) 8 [.ref (ad E 50 0), .int x1] M (some (.int q.1)) q.2 := by
  unfold f_X11_court at h
  refine mt_intro (own := RX11) (lv0 := [(0, .ref (ad E 50 0)), (1, .int x1)]) (by decide) rfl rfl rfl (fun Y C R => ?_)
  refine g_aload_n C dX11_court_0 rfl rfl ?_
  refine g_iconst (v := (0 : Int32)) C dX11_court_1 (by decide) ?_
  refine put_X11_71 C dX11_court_2 (by decide) ?_
  refine g_aload_n C dX11_court_5 rfl rfl ?_
  refine g_iconst (v := (0 : Int32)) C dX11_court_6 (by decide) ?_
  refine put_X11_74 C dX11_court_7 (by decide) ?_
  refine g_aload_n C dX11_court_10 rfl rfl ?_
  refine g_iload_n C dX11_court_11 rfl rfl ?_
  refine g_sipush (v := (900 : Int32)) C dX11_court_12 (by decide) ?_
  obtain ⟨q3, hr3, h⟩ := Option.bind_eq_some_iff.mp h
  refine call_X11_287 C dX11_court_15 (by decide) (c_X11_starts E hr3) (by decide) rfl ?_
  refine g_if_ne (tgt := 23) C dX11_court_18 (by decide) h (fun h => ?_) (fun h => ?_)
  · refine g_iconst (v := (0 : Int32)) C dX11_court_23 (by decide) ?_
    refine g_istore_n C dX11_court_24 rfl rfl ?_
    exact g_sub (b_X11_court_25 C R _ h) ⟨rfl, rfl, trivial⟩
  · refine g_iconst (v := (-1 : Int32)) C dX11_court_21 (by decide) ?_
    exact g_iret C R dX11_court_22 (fst_of h) (snd_of h)
noncomputable def f_X11_readTest_119 (x1 : Int32) (x2 : Int32) (ps1 : Int32) (M : Mem) : Option Mem :=
  (f_X11_must ps1 M).bind fun M8 =>
  if x2 = 0 then
    (f_X11_count (0 : Int32) (10 : Int32) M8).bind fun q12 =>
    if inb (x1 + (2 : Int32)) 2375 = true then
     let M14 := sR q12.2 55 0 (upd (q12.2.1 55 0) ((x1 + (2 : Int32)).toNatClampNeg) q12.1)
     some M14
    else none
  else
    (f_X11_signed (9999 : Int32) M8).bind fun q9 =>
    if inb (x1 + (2 : Int32)) 2375 = true then
     let M11 := sR q9.2 55 0 (upd (q9.2.1 55 0) ((x1 + (2 : Int32)).toNatClampNeg) q9.1)
     some M11
    else none
noncomputable def f_X11_readTest_114 (x1 : Int32) (x2 : Int32) (M : Mem) : Option Mem :=
  f_X11_readTest_119 x1 x2 (1 : Int32) M
noncomputable def f_X11_readTest_85 (x1 : Int32) (x2 : Int32) (ps1 : Int32) (ps2 : Int32) (M : Mem) : Option Mem :=
  if inb ps1 2375 = true then
   let M6 := sR M 55 0 (upd (M.1 55 0) ps1.toNatClampNeg ps2)
   (f_X11_isSign (60 : Int32) M6).bind fun r7 =>
   if r7 = 0 then
     (f_X11_isSign (62 : Int32) M6).bind fun r15 =>
     if r15 = 0 then
       (f_X11_isSign (61 : Int32) M6).bind fun r16 =>
       if r16 = 0 then
         f_X11_readTest_119 x1 x2 (0 : Int32) M6
       else
         f_X11_readTest_114 x1 x2 M6
     else
       f_X11_readTest_114 x1 x2 M6
   else
     f_X11_readTest_114 x1 x2 M6
  else none
noncomputable def f_X11_readTest_48 (x1 : Int32) (x2 : Int32) (M : Mem) : Option Mem :=
  if 0 < (M.1 50 0 12) then
    some M
  else
    if x2 = (1 : Int32) then
      some M
    else
      if (M.1 50 0 14) = (3 : Int32) then
        f_X11_readTest_85 x1 x2 (x1 + (7 : Int32)) (M.1 50 0 17) M
      else
        f_X11_readTest_85 x1 x2 (x1 + (7 : Int32)) (0 : Int32) M
noncomputable def f_X11_readTest_15 (x1 : Int32) (x2 : Int32) (ps1 : Int32) (M : Mem) : Option Mem :=
  (f_X11_must ps1 M).bind fun M2 =>
  if inb (x1 + (6 : Int32)) 2375 = true then
   let M4 := sR M2 55 0 (upd (M2.1 55 0) ((x1 + (6 : Int32)).toNatClampNeg) x2)
   if 0 < x2 then
     (f_X11_readTold (0 : Int32) (x2 + (1 : Int32)) M4).bind fun q17 =>
     if inb (x1 + (1 : Int32)) 2375 = true then
      let M19 := sR q17.2 55 0 (upd (q17.2.1 55 0) ((x1 + (1 : Int32)).toNatClampNeg) q17.1)
      f_X11_readTest_48 x1 x2 M19
     else none
   else
     f_X11_readTest_48 x1 x2 M4
  else none
noncomputable def f_X11_readTest (x1 : Int32) (M : Mem) : Option Mem :=
  (f_X11_testWord M).bind fun r1 =>
  if r1 < 0 then
    f_X11_readTest_15 x1 r1 (0 : Int32) M
  else
    f_X11_readTest_15 x1 r1 (1 : Int32) M
set_option maxRecDepth 20000 in
set_option maxHeartbeats 2000000 in
theorem b_X11_readTest_119 {E : wEnv} {Y : YT} (C : Cx E Y cX11_readTest 3 RX11 7) {q : Mem} (R : Rx E Y none none q) {x1 : Int32} {x2 : Int32} {ps1 : Int32} {M : Mem} (h : f_X11_readTest_119 x1 x2 ps1 M = some q) : G E Y 3 M 119 [(0, .ref (ad E 50 0)), (1, .int x1), (2, .int x2)] [.int ps1, .ref (ad E 50 0)] := by
  unfold f_X11_readTest_119 at h
  obtain ⟨M8, hr8, h⟩ := Option.bind_eq_some_iff.mp h
  refine call_X11_270 C dX11_readTest_119 (by decide) (c_X11_must E hr8) (by decide) rfl ?_
  refine g_aload_n C dX11_readTest_122 rfl rfl ?_
  refine get_X11_35 C dX11_readTest_123 (by decide) ?_
  refine g_iload_n C dX11_readTest_126 rfl rfl ?_
  refine g_iconst (v := (2 : Int32)) C dX11_readTest_127 (by decide) ?_
  refine g_iadd C dX11_readTest_128 ?_
  refine g_iload_n C dX11_readTest_129 rfl rfl ?_
  refine g_if_ne (tgt := 143) C dX11_readTest_130 (by decide) h (fun h => ?_) (fun h => ?_)
  · refine g_aload_n C dX11_readTest_143 rfl rfl ?_
    refine g_sipush (v := (9999 : Int32)) C dX11_readTest_144 (by decide) ?_
    obtain ⟨q9, hr9, h⟩ := Option.bind_eq_some_iff.mp h
    refine call_X11_277 C dX11_readTest_147 (by decide) (c_X11_signed E hr9) (by decide) rfl ?_
    obtain ⟨hb10, h⟩ := of_ite h
    refine st_55 (j := _) C dX11_readTest_150 (by decide) hb10 rfl ?_
    exact g_vret C R dX11_readTest_151 (Option.some.inj h)
  · refine g_aload_n C dX11_readTest_133 rfl rfl ?_
    refine g_iconst (v := (0 : Int32)) C dX11_readTest_134 (by decide) ?_
    refine g_bipush (v := (10 : Int32)) C dX11_readTest_135 (by decide) ?_
    obtain ⟨q12, hr12, h⟩ := Option.bind_eq_some_iff.mp h
    refine call_X11_245 C dX11_readTest_137 (by decide) (c_X11_count E hr12) (by decide) rfl ?_
    refine g_goto (tgt := 150) C dX11_readTest_140 (by decide) ?_
    obtain ⟨hb13, h⟩ := of_ite h
    refine st_55 (j := _) C dX11_readTest_150 (by decide) hb13 rfl ?_
    exact g_vret C R dX11_readTest_151 (Option.some.inj h)
set_option maxRecDepth 20000 in
set_option maxHeartbeats 2000000 in
theorem b_X11_readTest_114 {E : wEnv} {Y : YT} (C : Cx E Y cX11_readTest 3 RX11 7) {q : Mem} (R : Rx E Y none none q) {x1 : Int32} {x2 : Int32} {M : Mem} (h : f_X11_readTest_114 x1 x2 M = some q) : G E Y 3 M 114 [(0, .ref (ad E 50 0)), (1, .int x1), (2, .int x2)] [.ref (ad E 50 0)] := by
  unfold f_X11_readTest_114 at h
  refine g_iconst (v := (1 : Int32)) C dX11_readTest_114 (by decide) ?_
  refine g_goto (tgt := 119) C dX11_readTest_115 (by decide) ?_
  exact g_sub (b_X11_readTest_119 C R h) ⟨rfl, rfl, rfl, trivial⟩
set_option maxRecDepth 20000 in
set_option maxHeartbeats 2000000 in
theorem b_X11_readTest_85 {E : wEnv} {Y : YT} (C : Cx E Y cX11_readTest 3 RX11 7) {q : Mem} (R : Rx E Y none none q) {x1 : Int32} {x2 : Int32} {ps1 : Int32} {ps2 : Int32} {M : Mem} (h : f_X11_readTest_85 x1 x2 ps1 ps2 M = some q) : G E Y 3 M 85 [(0, .ref (ad E 50 0)), (1, .int x1), (2, .int x2)] [.int ps2, .int ps1, .ref (ad E 55 0)] := by
  unfold f_X11_readTest_85 at h
  obtain ⟨hb5, h⟩ := of_ite h
  refine st_55 (j := _) C dX11_readTest_85 (by decide) hb5 rfl ?_
  refine g_aload_n C dX11_readTest_86 rfl rfl ?_
  refine g_aload_n C dX11_readTest_87 rfl rfl ?_
  refine g_bipush (v := (60 : Int32)) C dX11_readTest_88 (by decide) ?_
  obtain ⟨r7, hr7, h⟩ := Option.bind_eq_some_iff.mp h
  refine call_X11_314 C dX11_readTest_90 (by decide) (c_X11_isSign E hr7) (by decide) rfl ?_
  refine g_if_ne (tgt := 114) C dX11_readTest_93 (by decide) h (fun h => ?_) (fun h => ?_)
  · exact g_sub (b_X11_readTest_114 C R h) ⟨rfl, rfl, rfl, trivial⟩
  · refine g_aload_n C dX11_readTest_96 rfl rfl ?_
    refine g_bipush (v := (62 : Int32)) C dX11_readTest_97 (by decide) ?_
    obtain ⟨r15, hr15, h⟩ := Option.bind_eq_some_iff.mp h
    refine call_X11_314 C dX11_readTest_99 (by decide) (c_X11_isSign E hr15) (by decide) rfl ?_
    refine g_if_ne (tgt := 114) C dX11_readTest_102 (by decide) h (fun h => ?_) (fun h => ?_)
    · exact g_sub (b_X11_readTest_114 C R h) ⟨rfl, rfl, rfl, trivial⟩
    · refine g_aload_n C dX11_readTest_105 rfl rfl ?_
      refine g_bipush (v := (61 : Int32)) C dX11_readTest_106 (by decide) ?_
      obtain ⟨r16, hr16, h⟩ := Option.bind_eq_some_iff.mp h
      refine call_X11_314 C dX11_readTest_108 (by decide) (c_X11_isSign E hr16) (by decide) rfl ?_
      refine g_if_eq (tgt := 118) C dX11_readTest_111 (by decide) h (fun h => ?_) (fun h => ?_)
      · refine g_iconst (v := (0 : Int32)) C dX11_readTest_118 (by decide) ?_
        exact g_sub (b_X11_readTest_119 C R h) ⟨rfl, rfl, rfl, trivial⟩
      · exact g_sub (b_X11_readTest_114 C R h) ⟨rfl, rfl, rfl, trivial⟩
set_option maxRecDepth 20000 in
set_option maxHeartbeats 2000000 in
theorem b_X11_readTest_48 {E : wEnv} {Y : YT} (C : Cx E Y cX11_readTest 3 RX11 7) {q : Mem} (R : Rx E Y none none q) {x1 : Int32} {x2 : Int32} {M : Mem} (h : f_X11_readTest_48 x1 x2 M = some q) : G E Y 3 M 48 [(0, .ref (ad E 50 0)), (1, .int x1), (2, .int x2)] [] := by
  unfold f_X11_readTest_48 at h
  refine g_aload_n C dX11_readTest_48 rfl rfl ?_
  refine get_X11_229 C dX11_readTest_49 (by decide) ?_
  refine g_if_gt (tgt := 60) C dX11_readTest_52 (by decide) h (fun h => ?_) (fun h => ?_)
  · exact g_vret C R dX11_readTest_60 (Option.some.inj h)
  · refine g_iload_n C dX11_readTest_55 rfl rfl ?_
    refine g_iconst (v := (1 : Int32)) C dX11_readTest_56 (by decide) ?_
    refine g_icmp_ne (tgt := 61) C dX11_readTest_57 (by decide) h (fun h => ?_) (fun h => ?_)
    · refine g_aload_n C dX11_readTest_61 rfl rfl ?_
      refine get_X11_35 C dX11_readTest_62 (by decide) ?_
      refine g_iload_n C dX11_readTest_65 rfl rfl ?_
      refine g_bipush (v := (7 : Int32)) C dX11_readTest_66 (by decide) ?_
      refine g_iadd C dX11_readTest_68 ?_
      refine g_aload_n C dX11_readTest_69 rfl rfl ?_
      refine get_X11_126 C dX11_readTest_70 (by decide) ?_
      refine g_iconst (v := (3 : Int32)) C dX11_readTest_73 (by decide) ?_
      refine g_icmp_ne (tgt := 84) C dX11_readTest_74 (by decide) h (fun h => ?_) (fun h => ?_)
      · refine g_iconst (v := (0 : Int32)) C dX11_readTest_84 (by decide) ?_
        exact g_sub (b_X11_readTest_85 C R h) ⟨rfl, rfl, rfl, trivial⟩
      · refine g_aload_n C dX11_readTest_77 rfl rfl ?_
        refine get_X11_145 C dX11_readTest_78 (by decide) ?_
        refine g_goto (tgt := 85) C dX11_readTest_81 (by decide) ?_
        exact g_sub (b_X11_readTest_85 C R h) ⟨rfl, rfl, rfl, trivial⟩
    · exact g_vret C R dX11_readTest_60 (Option.some.inj h)
set_option maxRecDepth 20000 in
set_option maxHeartbeats 2000000 in
theorem b_X11_readTest_15 {E : wEnv} {Y : YT} (C : Cx E Y cX11_readTest 3 RX11 7) {q : Mem} (R : Rx E Y none none q) {x1 : Int32} {x2 : Int32} {ps1 : Int32} {M : Mem} (h : f_X11_readTest_15 x1 x2 ps1 M = some q) : G E Y 3 M 15 [(0, .ref (ad E 50 0)), (1, .int x1), (2, .int x2)] [.int ps1, .ref (ad E 50 0)] := by
  unfold f_X11_readTest_15 at h
  obtain ⟨M2, hr2, h⟩ := Option.bind_eq_some_iff.mp h
  refine call_X11_270 C dX11_readTest_15 (by decide) (c_X11_must E hr2) (by decide) rfl ?_
  refine g_aload_n C dX11_readTest_18 rfl rfl ?_
  refine get_X11_35 C dX11_readTest_19 (by decide) ?_
  refine g_iload_n C dX11_readTest_22 rfl rfl ?_
  refine g_bipush (v := (6 : Int32)) C dX11_readTest_23 (by decide) ?_
  refine g_iadd C dX11_readTest_25 ?_
  refine g_iload_n C dX11_readTest_26 rfl rfl ?_
  obtain ⟨hb3, h⟩ := of_ite h
  refine st_55 (j := _) C dX11_readTest_27 (by decide) hb3 rfl ?_
  refine g_iload_n C dX11_readTest_28 rfl rfl ?_
  refine g_if_le (tgt := 48) C dX11_readTest_29 (by decide) h (fun h => ?_) (fun h => ?_)
  · exact g_sub (b_X11_readTest_48 C R h) ⟨rfl, rfl, rfl, trivial⟩
  · refine g_aload_n C dX11_readTest_32 rfl rfl ?_
    refine get_X11_35 C dX11_readTest_33 (by decide) ?_
    refine g_iload_n C dX11_readTest_36 rfl rfl ?_
    refine g_iconst (v := (1 : Int32)) C dX11_readTest_37 (by decide) ?_
    refine g_iadd C dX11_readTest_38 ?_
    refine g_aload_n C dX11_readTest_39 rfl rfl ?_
    refine g_iconst (v := (0 : Int32)) C dX11_readTest_40 (by decide) ?_
    refine g_iload_n C dX11_readTest_41 rfl rfl ?_
    refine g_iconst (v := (1 : Int32)) C dX11_readTest_42 (by decide) ?_
    refine g_iadd C dX11_readTest_43 ?_
    obtain ⟨q17, hr17, h⟩ := Option.bind_eq_some_iff.mp h
    refine call_X11_280 C dX11_readTest_44 (by decide) (c_X11_readTold E hr17) (by decide) rfl ?_
    obtain ⟨hb18, h⟩ := of_ite h
    refine st_55 (j := _) C dX11_readTest_47 (by decide) hb18 rfl ?_
    exact g_sub (b_X11_readTest_48 C R h) ⟨rfl, rfl, rfl, trivial⟩
set_option maxRecDepth 20000 in
set_option maxHeartbeats 2000000 in
theorem c_X11_readTest (E : wEnv) {x1 : Int32} {M : Mem} {q : Mem} (h : f_X11_readTest x1 M = some q) : Mt E yX11_readTest cX11_readTest 3 none 7 [.ref (ad E 50 0), .int x1] M none q := by
  unfold f_X11_readTest at h
  refine mt_intro (own := RX11) (lv0 := [(0, .ref (ad E 50 0)), (1, .int x1)]) (by decide) rfl rfl rfl (fun Y C R => ?_)
  refine g_aload_n C dX11_readTest_0 rfl rfl ?_
  obtain ⟨r1, hr1, h⟩ := Option.bind_eq_some_iff.mp h
  refine call_X11_220 C dX11_readTest_1 (by decide) (c_X11_testWord E hr1) (by decide) rfl ?_
  refine g_istore_n C dX11_readTest_4 rfl rfl ?_
  refine g_aload_n C dX11_readTest_5 rfl rfl ?_
  refine g_iload_n C dX11_readTest_6 rfl rfl ?_
  refine g_if_lt (tgt := 14) C dX11_readTest_7 (by decide) h (fun h => ?_) (fun h => ?_)
  · refine g_iconst (v := (0 : Int32)) C dX11_readTest_14 (by decide) ?_
    exact g_sub (b_X11_readTest_15 C R h) ⟨rfl, rfl, rfl, trivial⟩
  · refine g_iconst (v := (1 : Int32)) C dX11_readTest_10 (by decide) ?_
    refine g_goto (tgt := 15) C dX11_readTest_11 (by decide) ?_
    exact g_sub (b_X11_readTest_15 C R h) ⟨rfl, rfl, rfl, trivial⟩
noncomputable def f_X11_readRest_86 (x1 : Int32) (x2 : Int32) (M : Mem) : Option Mem :=
  (f_X11_readTold (0 : Int32) (0 : Int32) M).bind fun q6 =>
  if inb (x1 + (1 : Int32)) 2375 = true then
   let M8 := sR q6.2 55 0 (upd (q6.2.1 55 0) ((x1 + (1 : Int32)).toNatClampNeg) q6.1)
   if x2 = (5 : Int32) then
     if (M8.1 50 0 12) = 0 then
       (f_X11_isLess M8).bind fun r17 =>
       if r17 = 0 then
         if inb (x1 + (2 : Int32)) 2375 = true then
          let M19 := sR M8 55 0 (upd (M8.1 55 0) ((x1 + (2 : Int32)).toNatClampNeg) (1 : Int32))
          if inb (x1 + (2 : Int32)) 2375 = true then
           if (M19.1 55 0 ((x1 + (2 : Int32)).toNatClampNeg)) < 0 then
             (f_X11_next M19).bind fun M21 =>
             some M21
           else
             some M19
          else none
         else none
       else
         if inb (x1 + (2 : Int32)) 2375 = true then
          let M23 := sR M8 55 0 (upd (M8.1 55 0) ((x1 + (2 : Int32)).toNatClampNeg) (-1 : Int32))
          if inb (x1 + (2 : Int32)) 2375 = true then
           if (M23.1 55 0 ((x1 + (2 : Int32)).toNatClampNeg)) < 0 then
             (f_X11_next M23).bind fun M25 =>
             some M25
           else
             some M23
          else none
         else none
     else
       if inb (x1 + (2 : Int32)) 2375 = true then
        let M14 := sR M8 55 0 (upd (M8.1 55 0) ((x1 + (2 : Int32)).toNatClampNeg) (1 : Int32))
        if inb (x1 + (2 : Int32)) 2375 = true then
         if (M14.1 55 0 ((x1 + (2 : Int32)).toNatClampNeg)) < 0 then
           (f_X11_next M14).bind fun M16 =>
           some M16
         else
           some M14
        else none
       else none
   else
     if inb (x1 + (2 : Int32)) 2375 = true then
      let M10 := sR M8 55 0 (upd (M8.1 55 0) ((x1 + (2 : Int32)).toNatClampNeg) (1 : Int32))
      if inb (x1 + (2 : Int32)) 2375 = true then
       if (M10.1 55 0 ((x1 + (2 : Int32)).toNatClampNeg)) < 0 then
         (f_X11_next M10).bind fun M12 =>
         some M12
       else
         some M10
      else none
     else none
  else none
noncomputable def f_X11_readRest (x1 : Int32) (M : Mem) : Option Mem :=
  if inb x1 2375 = true then
   let x2_2 := (M.1 55 0 x1.toNatClampNeg)
   if x2_2 = 0 then
     (f_X11_readTold (0 : Int32) (1 : Int32) M).bind fun q30 =>
     if inb (x1 + (1 : Int32)) 2375 = true then
      let M32 := sR q30.2 55 0 (upd (q30.2.1 55 0) ((x1 + (1 : Int32)).toNatClampNeg) q30.1)
      some M32
     else none
   else
     if x2_2 = (1 : Int32) then
       (f_X11_count (1 : Int32) (99 : Int32) M).bind fun q3 =>
       if inb (x1 + (1 : Int32)) 2375 = true then
        let M5 := sR q3.2 55 0 (upd (q3.2.1 55 0) ((x1 + (1 : Int32)).toNatClampNeg) q3.1)
        some M5
       else none
     else
       if x2_2 = (8 : Int32) then
         (f_X11_count (1 : Int32) (99 : Int32) M).bind fun q27 =>
         if inb (x1 + (1 : Int32)) 2375 = true then
          let M29 := sR q27.2 55 0 (upd (q27.2.1 55 0) ((x1 + (1 : Int32)).toNatClampNeg) q27.1)
          some M29
         else none
       else
         if x2_2 = (7 : Int32) then
           (f_X11_readTest x1 M).bind fun M26 =>
           some M26
         else
           if x2_2 = (3 : Int32) then
             f_X11_readRest_86 x1 x2_2 M
           else
             if x2_2 = (4 : Int32) then
               f_X11_readRest_86 x1 x2_2 M
             else
               if x2_2 = (5 : Int32) then
                 f_X11_readRest_86 x1 x2_2 M
               else
                 some M
  else none
set_option maxRecDepth 20000 in
set_option maxHeartbeats 2000000 in
theorem b_X11_readRest_86 {E : wEnv} {Y : YT} (C : Cx E Y cX11_readRest 3 RX11 8) {q : Mem} (R : Rx E Y none none q) {x1 : Int32} {x2 : Int32} {M : Mem} (h : f_X11_readRest_86 x1 x2 M = some q) : G E Y 3 M 86 [(0, .ref (ad E 50 0)), (1, .int x1), (2, .int x2)] [] := by
  unfold f_X11_readRest_86 at h
  refine g_aload_n C dX11_readRest_86 rfl rfl ?_
  refine get_X11_35 C dX11_readRest_87 (by decide) ?_
  refine g_iload_n C dX11_readRest_90 rfl rfl ?_
  refine g_iconst (v := (1 : Int32)) C dX11_readRest_91 (by decide) ?_
  refine g_iadd C dX11_readRest_92 ?_
  refine g_aload_n C dX11_readRest_93 rfl rfl ?_
  refine g_iconst (v := (0 : Int32)) C dX11_readRest_94 (by decide) ?_
  refine g_iconst (v := (0 : Int32)) C dX11_readRest_95 (by decide) ?_
  obtain ⟨q6, hr6, h⟩ := Option.bind_eq_some_iff.mp h
  refine call_X11_280 C dX11_readRest_96 (by decide) (c_X11_readTold E hr6) (by decide) rfl ?_
  obtain ⟨hb7, h⟩ := of_ite h
  refine st_55 (j := _) C dX11_readRest_99 (by decide) hb7 rfl ?_
  refine g_aload_n C dX11_readRest_100 rfl rfl ?_
  refine get_X11_35 C dX11_readRest_101 (by decide) ?_
  refine g_iload_n C dX11_readRest_104 rfl rfl ?_
  refine g_iconst (v := (2 : Int32)) C dX11_readRest_105 (by decide) ?_
  refine g_iadd C dX11_readRest_106 ?_
  refine g_iload_n C dX11_readRest_107 rfl rfl ?_
  refine g_iconst (v := (5 : Int32)) C dX11_readRest_108 (by decide) ?_
  refine g_icmp_ne (tgt := 130) C dX11_readRest_109 (by decide) h (fun h => ?_) (fun h => ?_)
  · refine g_iconst (v := (1 : Int32)) C dX11_readRest_130 (by decide) ?_
    obtain ⟨hb9, h⟩ := of_ite h
    refine st_55 (j := _) C dX11_readRest_131 (by decide) hb9 rfl ?_
    refine g_aload_n C dX11_readRest_132 rfl rfl ?_
    refine get_X11_35 C dX11_readRest_133 (by decide) ?_
    refine g_iload_n C dX11_readRest_136 rfl rfl ?_
    refine g_iconst (v := (2 : Int32)) C dX11_readRest_137 (by decide) ?_
    refine g_iadd C dX11_readRest_138 ?_
    obtain ⟨hb11, h⟩ := of_ite h
    refine ld_55 (j := _) C dX11_readRest_139 (by decide) hb11 rfl ?_
    refine g_if_ge (tgt := 147) C dX11_readRest_140 (by decide) h (fun h => ?_) (fun h => ?_)
    · exact g_vret C R dX11_readRest_147 (Option.some.inj h)
    · refine g_aload_n C dX11_readRest_143 rfl rfl ?_
      obtain ⟨M12, hr12, h⟩ := Option.bind_eq_some_iff.mp h
      refine call_X11_239 C dX11_readRest_144 (by decide) (c_X11_next E hr12) (by decide) rfl ?_
      exact g_vret C R dX11_readRest_147 (Option.some.inj h)
  · refine g_aload_n C dX11_readRest_112 rfl rfl ?_
    refine get_X11_229 C dX11_readRest_113 (by decide) ?_
    refine g_if_ne (tgt := 130) C dX11_readRest_116 (by decide) h (fun h => ?_) (fun h => ?_)
    · refine g_iconst (v := (1 : Int32)) C dX11_readRest_130 (by decide) ?_
      obtain ⟨hb13, h⟩ := of_ite h
      refine st_55 (j := _) C dX11_readRest_131 (by decide) hb13 rfl ?_
      refine g_aload_n C dX11_readRest_132 rfl rfl ?_
      refine get_X11_35 C dX11_readRest_133 (by decide) ?_
      refine g_iload_n C dX11_readRest_136 rfl rfl ?_
      refine g_iconst (v := (2 : Int32)) C dX11_readRest_137 (by decide) ?_
      refine g_iadd C dX11_readRest_138 ?_
      obtain ⟨hb15, h⟩ := of_ite h
      refine ld_55 (j := _) C dX11_readRest_139 (by decide) hb15 rfl ?_
      refine g_if_ge (tgt := 147) C dX11_readRest_140 (by decide) h (fun h => ?_) (fun h => ?_)
      · exact g_vret C R dX11_readRest_147 (Option.some.inj h)
      · refine g_aload_n C dX11_readRest_143 rfl rfl ?_
        obtain ⟨M16, hr16, h⟩ := Option.bind_eq_some_iff.mp h
        refine call_X11_239 C dX11_readRest_144 (by decide) (c_X11_next E hr16) (by decide) rfl ?_
        exact g_vret C R dX11_readRest_147 (Option.some.inj h)
    · refine g_aload_n C dX11_readRest_119 rfl rfl ?_
      obtain ⟨r17, hr17, h⟩ := Option.bind_eq_some_iff.mp h
      refine call_X11_180 C dX11_readRest_120 (by decide) (c_X11_isLess E hr17) (by decide) rfl ?_
      refine g_if_eq (tgt := 130) C dX11_readRest_123 (by decide) h (fun h => ?_) (fun h => ?_)
      · refine g_iconst (v := (1 : Int32)) C dX11_readRest_130 (by decide) ?_
        obtain ⟨hb18, h⟩ := of_ite h
        refine st_55 (j := _) C dX11_readRest_131 (by decide) hb18 rfl ?_
        refine g_aload_n C dX11_readRest_132 rfl rfl ?_
        refine get_X11_35 C dX11_readRest_133 (by decide) ?_
        refine g_iload_n C dX11_readRest_136 rfl rfl ?_
        refine g_iconst (v := (2 : Int32)) C dX11_readRest_137 (by decide) ?_
        refine g_iadd C dX11_readRest_138 ?_
        obtain ⟨hb20, h⟩ := of_ite h
        refine ld_55 (j := _) C dX11_readRest_139 (by decide) hb20 rfl ?_
        refine g_if_ge (tgt := 147) C dX11_readRest_140 (by decide) h (fun h => ?_) (fun h => ?_)
        · exact g_vret C R dX11_readRest_147 (Option.some.inj h)
        · refine g_aload_n C dX11_readRest_143 rfl rfl ?_
          obtain ⟨M21, hr21, h⟩ := Option.bind_eq_some_iff.mp h
          refine call_X11_239 C dX11_readRest_144 (by decide) (c_X11_next E hr21) (by decide) rfl ?_
          exact g_vret C R dX11_readRest_147 (Option.some.inj h)
      · refine g_iconst (v := (-1 : Int32)) C dX11_readRest_126 (by decide) ?_
        refine g_goto (tgt := 131) C dX11_readRest_127 (by decide) ?_
        obtain ⟨hb22, h⟩ := of_ite h
        refine st_55 (j := _) C dX11_readRest_131 (by decide) hb22 rfl ?_
        refine g_aload_n C dX11_readRest_132 rfl rfl ?_
        refine get_X11_35 C dX11_readRest_133 (by decide) ?_
        refine g_iload_n C dX11_readRest_136 rfl rfl ?_
        refine g_iconst (v := (2 : Int32)) C dX11_readRest_137 (by decide) ?_
        refine g_iadd C dX11_readRest_138 ?_
        obtain ⟨hb24, h⟩ := of_ite h
        refine ld_55 (j := _) C dX11_readRest_139 (by decide) hb24 rfl ?_
        refine g_if_ge (tgt := 147) C dX11_readRest_140 (by decide) h (fun h => ?_) (fun h => ?_)
        · exact g_vret C R dX11_readRest_147 (Option.some.inj h)
        · refine g_aload_n C dX11_readRest_143 rfl rfl ?_
          obtain ⟨M25, hr25, h⟩ := Option.bind_eq_some_iff.mp h
          refine call_X11_239 C dX11_readRest_144 (by decide) (c_X11_next E hr25) (by decide) rfl ?_
          exact g_vret C R dX11_readRest_147 (Option.some.inj h)
set_option maxRecDepth 20000 in
set_option maxHeartbeats 2000000 in
theorem c_X11_readRest (E : wEnv) {x1 : Int32} {M : Mem} {q : Mem} (h : f_X11_readRest x1 M = some q) : Mt E yX11_readRest cX11_readRest 3 none 8 [.ref (ad E 50 0), .int x1] M none q := by
  unfold f_X11_readRest at h
  refine mt_intro (own := RX11) (lv0 := [(0, .ref (ad E 50 0)), (1, .int x1)]) (by decide) rfl rfl rfl (fun Y C R => ?_)
  refine g_aload_n C dX11_readRest_0 rfl rfl ?_
  refine get_X11_35 C dX11_readRest_1 (by decide) ?_
  refine g_iload_n C dX11_readRest_4 rfl rfl ?_
  obtain ⟨hb1, h⟩ := of_ite h
  refine ld_55 (j := _) C dX11_readRest_5 (by decide) hb1 rfl ?_
  refine g_istore_n C dX11_readRest_6 rfl rfl ?_
  refine g_iload_n C dX11_readRest_7 rfl rfl ?_
  refine g_if_ne (tgt := 28) C dX11_readRest_8 (by decide) h (fun h => ?_) (fun h => ?_)
  · refine g_iload_n C dX11_readRest_28 rfl rfl ?_
    refine g_iconst (v := (1 : Int32)) C dX11_readRest_29 (by decide) ?_
    refine g_icmp_eq (tgt := 39) C dX11_readRest_30 (by decide) h (fun h => ?_) (fun h => ?_)
    · refine g_aload_n C dX11_readRest_39 rfl rfl ?_
      refine get_X11_35 C dX11_readRest_40 (by decide) ?_
      refine g_iload_n C dX11_readRest_43 rfl rfl ?_
      refine g_iconst (v := (1 : Int32)) C dX11_readRest_44 (by decide) ?_
      refine g_iadd C dX11_readRest_45 ?_
      refine g_aload_n C dX11_readRest_46 rfl rfl ?_
      refine g_iconst (v := (1 : Int32)) C dX11_readRest_47 (by decide) ?_
      refine g_bipush (v := (99 : Int32)) C dX11_readRest_48 (by decide) ?_
      obtain ⟨q3, hr3, h⟩ := Option.bind_eq_some_iff.mp h
      refine call_X11_245 C dX11_readRest_50 (by decide) (c_X11_count E hr3) (by decide) rfl ?_
      obtain ⟨hb4, h⟩ := of_ite h
      refine st_55 (j := _) C dX11_readRest_53 (by decide) hb4 rfl ?_
      refine g_goto (tgt := 147) C dX11_readRest_54 (by decide) ?_
      exact g_vret C R dX11_readRest_147 (Option.some.inj h)
    · refine g_iload_n C dX11_readRest_33 rfl rfl ?_
      refine g_bipush (v := (8 : Int32)) C dX11_readRest_34 (by decide) ?_
      refine g_icmp_ne (tgt := 57) C dX11_readRest_36 (by decide) h (fun h => ?_) (fun h => ?_)
      · refine g_iload_n C dX11_readRest_57 rfl rfl ?_
        refine g_bipush (v := (7 : Int32)) C dX11_readRest_58 (by decide) ?_
        refine g_icmp_ne (tgt := 71) C dX11_readRest_60 (by decide) h (fun h => ?_) (fun h => ?_)
        · refine g_iload_n C dX11_readRest_71 rfl rfl ?_
          refine g_iconst (v := (3 : Int32)) C dX11_readRest_72 (by decide) ?_
          refine g_icmp_eq (tgt := 86) C dX11_readRest_73 (by decide) h (fun h => ?_) (fun h => ?_)
          · exact g_sub (b_X11_readRest_86 C R h) ⟨rfl, rfl, rfl, trivial⟩
          · refine g_iload_n C dX11_readRest_76 rfl rfl ?_
            refine g_iconst (v := (4 : Int32)) C dX11_readRest_77 (by decide) ?_
            refine g_icmp_eq (tgt := 86) C dX11_readRest_78 (by decide) h (fun h => ?_) (fun h => ?_)
            · exact g_sub (b_X11_readRest_86 C R h) ⟨rfl, rfl, rfl, trivial⟩
            · refine g_iload_n C dX11_readRest_81 rfl rfl ?_
              refine g_iconst (v := (5 : Int32)) C dX11_readRest_82 (by decide) ?_
              refine g_icmp_ne (tgt := 147) C dX11_readRest_83 (by decide) h (fun h => ?_) (fun h => ?_)
              · exact g_vret C R dX11_readRest_147 (Option.some.inj h)
              · exact g_sub (b_X11_readRest_86 C R h) ⟨rfl, rfl, rfl, trivial⟩
        · refine g_aload_n C dX11_readRest_63 rfl rfl ?_
          refine g_iload_n C dX11_readRest_64 rfl rfl ?_
          obtain ⟨M26, hr26, h⟩ := Option.bind_eq_some_iff.mp h
          refine call_X11_323 C dX11_readRest_65 (by decide) (c_X11_readTest E hr26) (by decide) rfl ?_
          refine g_goto (tgt := 147) C dX11_readRest_68 (by decide) ?_
          exact g_vret C R dX11_readRest_147 (Option.some.inj h)
      · refine g_aload_n C dX11_readRest_39 rfl rfl ?_
        refine get_X11_35 C dX11_readRest_40 (by decide) ?_
        refine g_iload_n C dX11_readRest_43 rfl rfl ?_
        refine g_iconst (v := (1 : Int32)) C dX11_readRest_44 (by decide) ?_
        refine g_iadd C dX11_readRest_45 ?_
        refine g_aload_n C dX11_readRest_46 rfl rfl ?_
        refine g_iconst (v := (1 : Int32)) C dX11_readRest_47 (by decide) ?_
        refine g_bipush (v := (99 : Int32)) C dX11_readRest_48 (by decide) ?_
        obtain ⟨q27, hr27, h⟩ := Option.bind_eq_some_iff.mp h
        refine call_X11_245 C dX11_readRest_50 (by decide) (c_X11_count E hr27) (by decide) rfl ?_
        obtain ⟨hb28, h⟩ := of_ite h
        refine st_55 (j := _) C dX11_readRest_53 (by decide) hb28 rfl ?_
        refine g_goto (tgt := 147) C dX11_readRest_54 (by decide) ?_
        exact g_vret C R dX11_readRest_147 (Option.some.inj h)
  · refine g_aload_n C dX11_readRest_11 rfl rfl ?_
    refine get_X11_35 C dX11_readRest_12 (by decide) ?_
    refine g_iload_n C dX11_readRest_15 rfl rfl ?_
    refine g_iconst (v := (1 : Int32)) C dX11_readRest_16 (by decide) ?_
    refine g_iadd C dX11_readRest_17 ?_
    refine g_aload_n C dX11_readRest_18 rfl rfl ?_
    refine g_iconst (v := (0 : Int32)) C dX11_readRest_19 (by decide) ?_
    refine g_iconst (v := (1 : Int32)) C dX11_readRest_20 (by decide) ?_
    obtain ⟨q30, hr30, h⟩ := Option.bind_eq_some_iff.mp h
    refine call_X11_280 C dX11_readRest_21 (by decide) (c_X11_readTold E hr30) (by decide) rfl ?_
    obtain ⟨hb31, h⟩ := of_ite h
    refine st_55 (j := _) C dX11_readRest_24 (by decide) hb31 rfl ?_
    refine g_goto (tgt := 147) C dX11_readRest_25 (by decide) ?_
    exact g_vret C R dX11_readRest_147 (Option.some.inj h)
noncomputable def f_X11_readStep_170 (rec : Int32 → Mem → Option Mem) (x3 : Int32) (x4 : Int32) (M : Mem) : Option Mem :=
  if x3 = 0 then
    if inb (x4 + (8 : Int32)) 2375 = true then
     let M11 := sR M 55 0 (upd (M.1 55 0) ((x4 + (8 : Int32)).toNatClampNeg) (M.1 50 0 25))
     some M11
    else none
  else
    (f_X11_isEnd M).bind fun r12 =>
    (f_X11_must r12 M).bind fun M13 =>
    (f_X11_isSign (59 : Int32) M13).bind fun r14 =>
    (f_X11_must r14 M13).bind fun M15 =>
    if inb (x4 + (8 : Int32)) 2375 = true then
     let M17 := sR M15 55 0 (upd (M15.1 55 0) ((x4 + (8 : Int32)).toNatClampNeg) (M15.1 50 0 25))
     some M17
    else none
noncomputable def f_X11_readStep_142 (rec : Int32 → Mem → Option Mem) (x1 : Int32) (x3 : Int32) (x4 : Int32) : Nat → Mem → Option Mem
  | 0, _ => none
  | n + 1, M =>
  if x3 = 0 then
    f_X11_readStep_170 rec x3 x4 M
  else
    if (M.1 50 0 12) = 0 then
      (f_X11_isEnd M).bind fun r18 =>
      if r18 = 0 then
        (rec (x1 + (1 : Int32)) M).bind fun M19 =>
        f_X11_readStep_142 rec x1 x3 x4 n M19
      else
        f_X11_readStep_170 rec x3 x4 M
    else
      f_X11_readStep_170 rec x3 x4 M
noncomputable def f_X11_readStep_83 (rec : Int32 → Mem → Option Mem) (x1 : Int32) (x2 : Int32) (x3 : Int32) (M : Mem) : Option Mem :=
  if 0 < (M.1 50 0 12) then
    some M
  else
    let x4_2 := ((2100 : Int32) + ((9 : Int32) * (M.1 50 0 25)))
    let M3 := sR M 50 0 (upd (M.1 50 0) 25 ((M.1 50 0 25) + (1 : Int32)))
    (f_X11_next M3).bind fun M4 =>
    if inb x4_2 2375 = true then
     let M6 := sR M4 55 0 (upd (M4.1 55 0) x4_2.toNatClampNeg x2)
     (f_X11_readRest x4_2 M6).bind fun M7 =>
     (f_X11_isSign (59 : Int32) M7).bind fun r8 =>
     (f_X11_must r8 M7).bind fun M9 =>
     f_X11_readStep_142 rec x1 x3 x4_2 FU M9
    else none
noncomputable def f_X11_readStep_57 (rec : Int32 → Mem → Option Mem) (x1 : Int32) (x2 : Int32) (x3 : Int32) (M : Mem) : Option Mem :=
  if (M.1 50 0 12) = 0 then
    if x3 = 0 then
      f_X11_readStep_83 rec x1 x2 x3 M
    else
      if x1 = (3 : Int32) then
        (f_X11_fail (7 : Int32) (M.1 50 0 15) M).bind fun M20 =>
        f_X11_readStep_83 rec x1 x2 x3 M20
      else
        f_X11_readStep_83 rec x1 x2 x3 M
  else
    f_X11_readStep_83 rec x1 x2 x3 M
noncomputable def f_X11_readStep_31 (rec : Int32 → Mem → Option Mem) (x1 : Int32) (x2 : Int32) (x3 : Int32) (M : Mem) : Option Mem :=
  if (M.1 50 0 12) = 0 then
    if (M.1 50 0 25) = (30 : Int32) then
      (f_X11_fail (6 : Int32) (M.1 50 0 15) M).bind fun M21 =>
      f_X11_readStep_57 rec x1 x2 x3 M21
    else
      f_X11_readStep_57 rec x1 x2 x3 M
  else
    f_X11_readStep_57 rec x1 x2 x3 M
noncomputable def f_X11_readStep_22 (rec : Int32 → Mem → Option Mem) (x1 : Int32) (x2 : Int32) (ps0 : Int32) (M : Mem) : Option Mem :=
  if x2 < 0 then
    (f_X11_wrong M).bind fun M22 =>
    f_X11_readStep_31 rec x1 x2 ps0 M22
  else
    f_X11_readStep_31 rec x1 x2 ps0 M
noncomputable def f_X11_readStep_17 (rec : Int32 → Mem → Option Mem) (x1 : Int32) (x2 : Int32) (M : Mem) : Option Mem :=
  f_X11_readStep_22 rec x1 x2 (1 : Int32) M
noncomputable def f_X11_readStep : Nat → Int32 → Mem → Option Mem
  | 0, _, _ => none
  | n + 1, x1, M =>
  (f_X11_stepWord M).bind fun r1 =>
  if r1 = (7 : Int32) then
    f_X11_readStep_17 (f_X11_readStep n) x1 r1 M
  else
    if r1 = (8 : Int32) then
      f_X11_readStep_17 (f_X11_readStep n) x1 r1 M
    else
      f_X11_readStep_22 (f_X11_readStep n) x1 r1 (0 : Int32) M
set_option maxRecDepth 20000 in
set_option maxHeartbeats 2000000 in
theorem b_X11_readStep_170 {E : wEnv} {Y : YT} {dd dr : Nat} {rec : Int32 → Mem → Option Mem} (C : Cx E Y cX11_readStep 5 RX11 dd) (hrec : ∀ {x1 : Int32} {M : Mem} {q : Mem}, rec x1 M = some q → Mt E yX11_readStep cX11_readStep 5 none dr [.ref (ad E 50 0), .int x1] M none q) (hdr : dr + 1 ≤ dd) (hdD : 9 ≤ dr) {q : Mem} (R : Rx E Y none none q) {x3 : Int32} {x4 : Int32} {M : Mem} (h : f_X11_readStep_170 rec x3 x4 M = some q) : G E Y 5 M 170 [(0, .ref (ad E 50 0)), (3, .int x3), (4, .int x4)] [] := by
  unfold f_X11_readStep_170 at h
  refine g_iload_n C dX11_readStep_170 rfl rfl ?_
  refine g_if_eq (tgt := 192) C dX11_readStep_171 (by decide) h (fun h => ?_) (fun h => ?_)
  · refine g_aload_n C dX11_readStep_192 rfl rfl ?_
    refine get_X11_35 C dX11_readStep_193 (by decide) ?_
    refine g_iload C dX11_readStep_196 rfl ?_
    refine g_bipush (v := (8 : Int32)) C dX11_readStep_198 (by decide) ?_
    refine g_iadd C dX11_readStep_200 ?_
    refine g_aload_n C dX11_readStep_201 rfl rfl ?_
    refine get_X11_326 C dX11_readStep_202 (by decide) ?_
    obtain ⟨hb10, h⟩ := of_ite h
    refine st_55 (j := _) C dX11_readStep_205 (by decide) hb10 rfl ?_
    exact g_vret C R dX11_readStep_206 (Option.some.inj h)
  · refine g_aload_n C dX11_readStep_174 rfl rfl ?_
    refine g_aload_n C dX11_readStep_175 rfl rfl ?_
    obtain ⟨r12, hr12, h⟩ := Option.bind_eq_some_iff.mp h
    refine call_X11_223 C dX11_readStep_176 (by decide) (c_X11_isEnd E hr12) (by omega) rfl ?_
    obtain ⟨M13, hr13, h⟩ := Option.bind_eq_some_iff.mp h
    refine call_X11_270 C dX11_readStep_179 (by decide) (c_X11_must E hr13) (by omega) rfl ?_
    refine g_aload_n C dX11_readStep_182 rfl rfl ?_
    refine g_aload_n C dX11_readStep_183 rfl rfl ?_
    refine g_bipush (v := (59 : Int32)) C dX11_readStep_184 (by decide) ?_
    obtain ⟨r14, hr14, h⟩ := Option.bind_eq_some_iff.mp h
    refine call_X11_314 C dX11_readStep_186 (by decide) (c_X11_isSign E hr14) (by omega) rfl ?_
    obtain ⟨M15, hr15, h⟩ := Option.bind_eq_some_iff.mp h
    refine call_X11_270 C dX11_readStep_189 (by decide) (c_X11_must E hr15) (by omega) rfl ?_
    refine g_aload_n C dX11_readStep_192 rfl rfl ?_
    refine get_X11_35 C dX11_readStep_193 (by decide) ?_
    refine g_iload C dX11_readStep_196 rfl ?_
    refine g_bipush (v := (8 : Int32)) C dX11_readStep_198 (by decide) ?_
    refine g_iadd C dX11_readStep_200 ?_
    refine g_aload_n C dX11_readStep_201 rfl rfl ?_
    refine get_X11_326 C dX11_readStep_202 (by decide) ?_
    obtain ⟨hb16, h⟩ := of_ite h
    refine st_55 (j := _) C dX11_readStep_205 (by decide) hb16 rfl ?_
    exact g_vret C R dX11_readStep_206 (Option.some.inj h)
set_option maxRecDepth 20000 in
set_option maxHeartbeats 2000000 in
theorem b_X11_readStep_142 {E : wEnv} {Y : YT} {dd dr : Nat} {rec : Int32 → Mem → Option Mem} (C : Cx E Y cX11_readStep 5 RX11 dd) (hrec : ∀ {x1 : Int32} {M : Mem} {q : Mem}, rec x1 M = some q → Mt E yX11_readStep cX11_readStep 5 none dr [.ref (ad E 50 0), .int x1] M none q) (hdr : dr + 1 ≤ dd) (hdD : 9 ≤ dr) {q : Mem} (R : Rx E Y none none q) {x1 : Int32} {x3 : Int32} {x4 : Int32} (n : Nat) : ∀ {M : Mem} (_ : f_X11_readStep_142 rec x1 x3 x4 n M = some q), G E Y 5 M 142 [(0, .ref (ad E 50 0)), (1, .int x1), (3, .int x3), (4, .int x4)] [] := by
  induction n with
  | zero =>
    intro M h
    cases (show none = some q from h)
  | succ n ih =>
    intro M h
    rw [f_X11_readStep_142] at h
    refine g_iload_n C dX11_readStep_142 rfl rfl ?_
    refine g_if_eq (tgt := 170) C dX11_readStep_143 (by decide) h (fun h => ?_) (fun h => ?_)
    · exact g_sub (b_X11_readStep_170 C hrec hdr hdD R h) ⟨rfl, rfl, rfl, trivial⟩
    · refine g_aload_n C dX11_readStep_146 rfl rfl ?_
      refine get_X11_229 C dX11_readStep_147 (by decide) ?_
      refine g_if_ne (tgt := 170) C dX11_readStep_150 (by decide) h (fun h => ?_) (fun h => ?_)
      · exact g_sub (b_X11_readStep_170 C hrec hdr hdD R h) ⟨rfl, rfl, rfl, trivial⟩
      · refine g_aload_n C dX11_readStep_153 rfl rfl ?_
        obtain ⟨r18, hr18, h⟩ := Option.bind_eq_some_iff.mp h
        refine call_X11_223 C dX11_readStep_154 (by decide) (c_X11_isEnd E hr18) (by omega) rfl ?_
        refine g_if_ne (tgt := 170) C dX11_readStep_157 (by decide) h (fun h => ?_) (fun h => ?_)
        · exact g_sub (b_X11_readStep_170 C hrec hdr hdD R h) ⟨rfl, rfl, rfl, trivial⟩
        · refine g_aload_n C dX11_readStep_160 rfl rfl ?_
          refine g_iload_n C dX11_readStep_161 rfl rfl ?_
          refine g_iconst (v := (1 : Int32)) C dX11_readStep_162 (by decide) ?_
          refine g_iadd C dX11_readStep_163 ?_
          obtain ⟨M19, hr19, h⟩ := Option.bind_eq_some_iff.mp h
          refine call_X11_332 C dX11_readStep_164 (by decide) (hrec hr19) (by omega) rfl ?_
          refine g_goto (tgt := 142) C dX11_readStep_167 (by decide) ?_
          exact g_sub (ih h) ⟨rfl, rfl, rfl, rfl, trivial⟩
set_option maxRecDepth 20000 in
set_option maxHeartbeats 2000000 in
theorem b_X11_readStep_83 {E : wEnv} {Y : YT} {dd dr : Nat} {rec : Int32 → Mem → Option Mem} (C : Cx E Y cX11_readStep 5 RX11 dd) (hrec : ∀ {x1 : Int32} {M : Mem} {q : Mem}, rec x1 M = some q → Mt E yX11_readStep cX11_readStep 5 none dr [.ref (ad E 50 0), .int x1] M none q) (hdr : dr + 1 ≤ dd) (hdD : 9 ≤ dr) {q : Mem} (R : Rx E Y none none q) {x1 : Int32} {x2 : Int32} {x3 : Int32} {M : Mem} (h : f_X11_readStep_83 rec x1 x2 x3 M = some q) : G E Y 5 M 83 [(0, .ref (ad E 50 0)), (1, .int x1), (2, .int x2), (3, .int x3)] [] := by
  unfold f_X11_readStep_83 at h
  refine g_aload_n C dX11_readStep_83 rfl rfl ?_
  refine get_X11_229 C dX11_readStep_84 (by decide) ?_
  refine g_if_le (tgt := 91) C dX11_readStep_87 (by decide) h (fun h => ?_) (fun h => ?_)
  · refine g_sipush (v := (2100 : Int32)) C dX11_readStep_91 (by decide) ?_
    refine g_bipush (v := (9 : Int32)) C dX11_readStep_94 (by decide) ?_
    refine g_aload_n C dX11_readStep_96 rfl rfl ?_
    refine get_X11_326 C dX11_readStep_97 (by decide) ?_
    refine g_imul C dX11_readStep_100 ?_
    refine g_iadd C dX11_readStep_101 ?_
    refine g_istore C dX11_readStep_102 rfl ?_
    refine g_aload_n C dX11_readStep_104 rfl rfl ?_
    refine g_dup C dX11_readStep_105 rfl ?_
    refine get_X11_326 C dX11_readStep_106 (by decide) ?_
    refine g_iconst (v := (1 : Int32)) C dX11_readStep_109 (by decide) ?_
    refine g_iadd C dX11_readStep_110 ?_
    refine put_X11_326 C dX11_readStep_111 (by decide) ?_
    refine g_aload_n C dX11_readStep_114 rfl rfl ?_
    obtain ⟨M4, hr4, h⟩ := Option.bind_eq_some_iff.mp h
    refine call_X11_239 C dX11_readStep_115 (by decide) (c_X11_next E hr4) (by omega) rfl ?_
    refine g_aload_n C dX11_readStep_118 rfl rfl ?_
    refine get_X11_35 C dX11_readStep_119 (by decide) ?_
    refine g_iload C dX11_readStep_122 rfl ?_
    refine g_iload_n C dX11_readStep_124 rfl rfl ?_
    obtain ⟨hb5, h⟩ := of_ite h
    refine st_55 (j := _) C dX11_readStep_125 (by decide) hb5 rfl ?_
    refine g_aload_n C dX11_readStep_126 rfl rfl ?_
    refine g_iload C dX11_readStep_127 rfl ?_
    obtain ⟨M7, hr7, h⟩ := Option.bind_eq_some_iff.mp h
    refine call_X11_329 C dX11_readStep_129 (by decide) (c_X11_readRest E hr7) (by omega) rfl ?_
    refine g_aload_n C dX11_readStep_132 rfl rfl ?_
    refine g_aload_n C dX11_readStep_133 rfl rfl ?_
    refine g_bipush (v := (59 : Int32)) C dX11_readStep_134 (by decide) ?_
    obtain ⟨r8, hr8, h⟩ := Option.bind_eq_some_iff.mp h
    refine call_X11_314 C dX11_readStep_136 (by decide) (c_X11_isSign E hr8) (by omega) rfl ?_
    obtain ⟨M9, hr9, h⟩ := Option.bind_eq_some_iff.mp h
    refine call_X11_270 C dX11_readStep_139 (by decide) (c_X11_must E hr9) (by omega) rfl ?_
    exact g_sub (b_X11_readStep_142 C hrec hdr hdD R _ h) ⟨rfl, rfl, rfl, rfl, trivial⟩
  · exact g_vret C R dX11_readStep_90 (Option.some.inj h)
set_option maxRecDepth 20000 in
set_option maxHeartbeats 2000000 in
theorem b_X11_readStep_57 {E : wEnv} {Y : YT} {dd dr : Nat} {rec : Int32 → Mem → Option Mem} (C : Cx E Y cX11_readStep 5 RX11 dd) (hrec : ∀ {x1 : Int32} {M : Mem} {q : Mem}, rec x1 M = some q → Mt E yX11_readStep cX11_readStep 5 none dr [.ref (ad E 50 0), .int x1] M none q) (hdr : dr + 1 ≤ dd) (hdD : 9 ≤ dr) {q : Mem} (R : Rx E Y none none q) {x1 : Int32} {x2 : Int32} {x3 : Int32} {M : Mem} (h : f_X11_readStep_57 rec x1 x2 x3 M = some q) : G E Y 5 M 57 [(0, .ref (ad E 50 0)), (1, .int x1), (2, .int x2), (3, .int x3)] [] := by
  unfold f_X11_readStep_57 at h
  refine g_aload_n C dX11_readStep_57 rfl rfl ?_
  refine get_X11_229 C dX11_readStep_58 (by decide) ?_
  refine g_if_ne (tgt := 83) C dX11_readStep_61 (by decide) h (fun h => ?_) (fun h => ?_)
  · exact g_sub (b_X11_readStep_83 C hrec hdr hdD R h) ⟨rfl, rfl, rfl, rfl, trivial⟩
  · refine g_iload_n C dX11_readStep_64 rfl rfl ?_
    refine g_if_eq (tgt := 83) C dX11_readStep_65 (by decide) h (fun h => ?_) (fun h => ?_)
    · exact g_sub (b_X11_readStep_83 C hrec hdr hdD R h) ⟨rfl, rfl, rfl, rfl, trivial⟩
    · refine g_iload_n C dX11_readStep_68 rfl rfl ?_
      refine g_iconst (v := (3 : Int32)) C dX11_readStep_69 (by decide) ?_
      refine g_icmp_ne (tgt := 83) C dX11_readStep_70 (by decide) h (fun h => ?_) (fun h => ?_)
      · exact g_sub (b_X11_readStep_83 C hrec hdr hdD R h) ⟨rfl, rfl, rfl, rfl, trivial⟩
      · refine g_aload_n C dX11_readStep_73 rfl rfl ?_
        refine g_bipush (v := (7 : Int32)) C dX11_readStep_74 (by decide) ?_
        refine g_aload_n C dX11_readStep_76 rfl rfl ?_
        refine get_X11_120 C dX11_readStep_77 (by decide) ?_
        obtain ⟨M20, hr20, h⟩ := Option.bind_eq_some_iff.mp h
        refine call_X11_235 C dX11_readStep_80 (by decide) (c_X11_fail E hr20) (by omega) rfl ?_
        exact g_sub (b_X11_readStep_83 C hrec hdr hdD R h) ⟨rfl, rfl, rfl, rfl, trivial⟩
set_option maxRecDepth 20000 in
set_option maxHeartbeats 2000000 in
theorem b_X11_readStep_31 {E : wEnv} {Y : YT} {dd dr : Nat} {rec : Int32 → Mem → Option Mem} (C : Cx E Y cX11_readStep 5 RX11 dd) (hrec : ∀ {x1 : Int32} {M : Mem} {q : Mem}, rec x1 M = some q → Mt E yX11_readStep cX11_readStep 5 none dr [.ref (ad E 50 0), .int x1] M none q) (hdr : dr + 1 ≤ dd) (hdD : 9 ≤ dr) {q : Mem} (R : Rx E Y none none q) {x1 : Int32} {x2 : Int32} {x3 : Int32} {M : Mem} (h : f_X11_readStep_31 rec x1 x2 x3 M = some q) : G E Y 5 M 31 [(0, .ref (ad E 50 0)), (1, .int x1), (2, .int x2), (3, .int x3)] [] := by
  unfold f_X11_readStep_31 at h
  refine g_aload_n C dX11_readStep_31 rfl rfl ?_
  refine get_X11_229 C dX11_readStep_32 (by decide) ?_
  refine g_if_ne (tgt := 57) C dX11_readStep_35 (by decide) h (fun h => ?_) (fun h => ?_)
  · exact g_sub (b_X11_readStep_57 C hrec hdr hdD R h) ⟨rfl, rfl, rfl, rfl, trivial⟩
  · refine g_aload_n C dX11_readStep_38 rfl rfl ?_
    refine get_X11_326 C dX11_readStep_39 (by decide) ?_
    refine g_bipush (v := (30 : Int32)) C dX11_readStep_42 (by decide) ?_
    refine g_icmp_ne (tgt := 57) C dX11_readStep_44 (by decide) h (fun h => ?_) (fun h => ?_)
    · exact g_sub (b_X11_readStep_57 C hrec hdr hdD R h) ⟨rfl, rfl, rfl, rfl, trivial⟩
    · refine g_aload_n C dX11_readStep_47 rfl rfl ?_
      refine g_bipush (v := (6 : Int32)) C dX11_readStep_48 (by decide) ?_
      refine g_aload_n C dX11_readStep_50 rfl rfl ?_
      refine get_X11_120 C dX11_readStep_51 (by decide) ?_
      obtain ⟨M21, hr21, h⟩ := Option.bind_eq_some_iff.mp h
      refine call_X11_235 C dX11_readStep_54 (by decide) (c_X11_fail E hr21) (by omega) rfl ?_
      exact g_sub (b_X11_readStep_57 C hrec hdr hdD R h) ⟨rfl, rfl, rfl, rfl, trivial⟩
set_option maxRecDepth 20000 in
set_option maxHeartbeats 2000000 in
theorem b_X11_readStep_22 {E : wEnv} {Y : YT} {dd dr : Nat} {rec : Int32 → Mem → Option Mem} (C : Cx E Y cX11_readStep 5 RX11 dd) (hrec : ∀ {x1 : Int32} {M : Mem} {q : Mem}, rec x1 M = some q → Mt E yX11_readStep cX11_readStep 5 none dr [.ref (ad E 50 0), .int x1] M none q) (hdr : dr + 1 ≤ dd) (hdD : 9 ≤ dr) {q : Mem} (R : Rx E Y none none q) {x1 : Int32} {x2 : Int32} {ps0 : Int32} {M : Mem} (h : f_X11_readStep_22 rec x1 x2 ps0 M = some q) : G E Y 5 M 22 [(0, .ref (ad E 50 0)), (1, .int x1), (2, .int x2)] [.int ps0] := by
  unfold f_X11_readStep_22 at h
  refine g_istore_n C dX11_readStep_22 rfl rfl ?_
  refine g_iload_n C dX11_readStep_23 rfl rfl ?_
  refine g_if_ge (tgt := 31) C dX11_readStep_24 (by decide) h (fun h => ?_) (fun h => ?_)
  · exact g_sub (b_X11_readStep_31 C hrec hdr hdD R h) ⟨rfl, rfl, rfl, rfl, trivial⟩
  · refine g_aload_n C dX11_readStep_27 rfl rfl ?_
    obtain ⟨M22, hr22, h⟩ := Option.bind_eq_some_iff.mp h
    refine call_X11_242 C dX11_readStep_28 (by decide) (c_X11_wrong E hr22) (by omega) rfl ?_
    exact g_sub (b_X11_readStep_31 C hrec hdr hdD R h) ⟨rfl, rfl, rfl, rfl, trivial⟩
set_option maxRecDepth 20000 in
set_option maxHeartbeats 2000000 in
theorem b_X11_readStep_17 {E : wEnv} {Y : YT} {dd dr : Nat} {rec : Int32 → Mem → Option Mem} (C : Cx E Y cX11_readStep 5 RX11 dd) (hrec : ∀ {x1 : Int32} {M : Mem} {q : Mem}, rec x1 M = some q → Mt E yX11_readStep cX11_readStep 5 none dr [.ref (ad E 50 0), .int x1] M none q) (hdr : dr + 1 ≤ dd) (hdD : 9 ≤ dr) {q : Mem} (R : Rx E Y none none q) {x1 : Int32} {x2 : Int32} {M : Mem} (h : f_X11_readStep_17 rec x1 x2 M = some q) : G E Y 5 M 17 [(0, .ref (ad E 50 0)), (1, .int x1), (2, .int x2)] [] := by
  unfold f_X11_readStep_17 at h
  refine g_iconst (v := (1 : Int32)) C dX11_readStep_17 (by decide) ?_
  refine g_goto (tgt := 22) C dX11_readStep_18 (by decide) ?_
  exact g_sub (b_X11_readStep_22 C hrec hdr hdD R h) ⟨rfl, rfl, rfl, trivial⟩
set_option maxRecDepth 20000 in
set_option maxHeartbeats 2000000 in
theorem c_X11_readStep (E : wEnv) (n : Nat) : ∀ {x1 : Int32} {M : Mem} {q : Mem} (_ : f_X11_readStep n x1 M = some q), Mt E yX11_readStep cX11_readStep 5 none (9 + 1 * n) [.ref (ad E 50 0), .int x1] M none q := by
  induction n with
  | zero =>
    intro x1 M q h
    cases (show none = some q from h)
  | succ n ih =>
    intro x1 M q h
    rw [f_X11_readStep] at h
    refine mt_intro (own := RX11) (lv0 := [(0, .ref (ad E 50 0)), (1, .int x1)]) (by decide) rfl rfl rfl (fun Y C R => ?_)
    refine g_aload_n C dX11_readStep_0 rfl rfl ?_
    obtain ⟨r1, hr1, h⟩ := Option.bind_eq_some_iff.mp h
    refine call_X11_217 C dX11_readStep_1 (by decide) (c_X11_stepWord E hr1) (by omega) rfl ?_
    refine g_istore_n C dX11_readStep_4 rfl rfl ?_
    refine g_iload_n C dX11_readStep_5 rfl rfl ?_
    refine g_bipush (v := (7 : Int32)) C dX11_readStep_6 (by decide) ?_
    refine g_icmp_eq (tgt := 17) C dX11_readStep_8 (by decide) h (fun h => ?_) (fun h => ?_)
    · exact g_sub (b_X11_readStep_17 (dr := 9 + 1 * n) C ih (by omega) (by omega) R h) ⟨rfl, rfl, rfl, trivial⟩
    · refine g_iload_n C dX11_readStep_11 rfl rfl ?_
      refine g_bipush (v := (8 : Int32)) C dX11_readStep_12 (by decide) ?_
      refine g_icmp_ne (tgt := 21) C dX11_readStep_14 (by decide) h (fun h => ?_) (fun h => ?_)
      · refine g_iconst (v := (0 : Int32)) C dX11_readStep_21 (by decide) ?_
        exact g_sub (b_X11_readStep_22 (dr := 9 + 1 * n) C ih (by omega) (by omega) R h) ⟨rfl, rfl, rfl, trivial⟩
      · exact g_sub (b_X11_readStep_17 (dr := 9 + 1 * n) C ih (by omega) (by omega) R h) ⟨rfl, rfl, rfl, trivial⟩
noncomputable def f_X11_weeks_82 : Nat → Int32 → Mem → Option (Int32 × Mem)
  | 0, _, _ => none
  | n + 1, x2, M =>
  if x2 < ((9 : Int32) * (M.1 50 0 25)) then
    if inb ((2100 : Int32) + x2) 2375 = true then
     if inb ((200 : Int32) + x2) 2375 = true then
      let M10 := sR M 55 0 (upd (M.1 55 0) (((200 : Int32) + x2).toNatClampNeg) (M.1 55 0 (((2100 : Int32) + x2).toNatClampNeg)))
      f_X11_weeks_82 n (x2 + (1 : Int32)) M10
     else none
    else none
  else
    some ((M.1 50 0 25), M)
noncomputable def f_X11_weeks_50 (M : Mem) : Option (Int32 × Mem) :=
  (f_X11_isWell M).bind fun q5 =>
  if q5.1 = 0 then
    some ((-1 : Int32), q5.2)
  else
    let M6 := sR q5.2 55 0 (upd (q5.2.1 55 0) 198 (1 : Int32))
    let M7 := sR M6 55 0 (upd (M6.1 55 0) 199 (M6.1 50 0 25))
    f_X11_weeks_82 FU (0 : Int32) M7
noncomputable def f_X11_weeks_28 : Nat → Mem → Option (Int32 × Mem)
  | 0, _ => none
  | n + 1, M =>
  if (M.1 50 0 12) = 0 then
    if (M.1 50 0 14) = 0 then
      f_X11_weeks_50 M
    else
      (f_X11_readStep 40 (0 : Int32) M).bind fun M11 =>
      f_X11_weeks_28 n M11
  else
    f_X11_weeks_50 M
noncomputable def f_X11_weeks (x1 : Int32) (M : Mem) : Option (Int32 × Mem) :=
  let M1 := sR M 50 0 (upd (M.1 50 0) 1 (0 : Int32))
  let M2 := sR M1 50 0 (upd (M1.1 50 0) 0 (0 : Int32))
  (f_X11_starts x1 (300 : Int32) M2).bind fun q3 =>
  if q3.1 = 0 then
    some ((-1 : Int32), q3.2)
  else
    let M4 := sR q3.2 50 0 (upd (q3.2.1 50 0) 25 (0 : Int32))
    f_X11_weeks_28 FU M4
set_option maxRecDepth 20000 in
set_option maxHeartbeats 2000000 in
theorem b_X11_weeks_82 {E : wEnv} {Y : YT} (C : Cx E Y cX11_weeks 3 RX11 50) {q : (Int32 × Mem)} (R : Rx E Y (some .int) (some (.int q.1)) q.2) (n : Nat) : ∀ {x2 : Int32} {M : Mem} (_ : f_X11_weeks_82 n x2 M = some q), G E Y 3 M 82 [(0, .ref (ad E 50 0)), (2, .int x2)] [] := by
  induction n with
  | zero =>
    intro x2 M h
    cases (show none = some q from h)
  | succ n ih =>
    intro x2 M h
    rw [f_X11_weeks_82] at h
    refine g_iload_n C dX11_weeks_82 rfl rfl ?_
    refine g_bipush (v := (9 : Int32)) C dX11_weeks_83 (by decide) ?_
    refine g_aload_n C dX11_weeks_85 rfl rfl ?_
    refine get_X11_326 C dX11_weeks_86 (by decide) ?_
    refine g_imul C dX11_weeks_89 ?_
    refine g_icmp_ge (tgt := 119) C dX11_weeks_90 (by decide) h (fun h => ?_) (fun h => ?_)
    · refine g_aload_n C dX11_weeks_119 rfl rfl ?_
      refine get_X11_326 C dX11_weeks_120 (by decide) ?_
      exact g_iret C R dX11_weeks_123 (fst_of h) (snd_of h)
    · refine g_aload_n C dX11_weeks_93 rfl rfl ?_
      refine get_X11_35 C dX11_weeks_94 (by decide) ?_
      refine g_sipush (v := (200 : Int32)) C dX11_weeks_97 (by decide) ?_
      refine g_iload_n C dX11_weeks_100 rfl rfl ?_
      refine g_iadd C dX11_weeks_101 ?_
      refine g_aload_n C dX11_weeks_102 rfl rfl ?_
      refine get_X11_35 C dX11_weeks_103 (by decide) ?_
      refine g_sipush (v := (2100 : Int32)) C dX11_weeks_106 (by decide) ?_
      refine g_iload_n C dX11_weeks_109 rfl rfl ?_
      refine g_iadd C dX11_weeks_110 ?_
      obtain ⟨hb8, h⟩ := of_ite h
      refine ld_55 (j := _) C dX11_weeks_111 (by decide) hb8 rfl ?_
      obtain ⟨hb9, h⟩ := of_ite h
      refine st_55 (j := _) C dX11_weeks_112 (by decide) hb9 rfl ?_
      refine g_iinc (w := (1 : Int32)) C dX11_weeks_113 rfl (by decide) rfl ?_
      refine g_goto (tgt := 82) C dX11_weeks_116 (by decide) ?_
      exact g_sub (ih h) ⟨rfl, rfl, trivial⟩
set_option maxRecDepth 20000 in
set_option maxHeartbeats 2000000 in
theorem b_X11_weeks_50 {E : wEnv} {Y : YT} (C : Cx E Y cX11_weeks 3 RX11 50) {q : (Int32 × Mem)} (R : Rx E Y (some .int) (some (.int q.1)) q.2) {M : Mem} (h : f_X11_weeks_50 M = some q) : G E Y 3 M 50 [(0, .ref (ad E 50 0))] [] := by
  unfold f_X11_weeks_50 at h
  refine g_aload_n C dX11_weeks_50 rfl rfl ?_
  obtain ⟨q5, hr5, h⟩ := Option.bind_eq_some_iff.mp h
  refine call_X11_317 C dX11_weeks_51 (by decide) (c_X11_isWell E hr5) (by decide) rfl ?_
  refine g_if_ne (tgt := 59) C dX11_weeks_54 (by decide) h (fun h => ?_) (fun h => ?_)
  · refine g_aload_n C dX11_weeks_59 rfl rfl ?_
    refine get_X11_35 C dX11_weeks_60 (by decide) ?_
    refine g_sipush (v := (198 : Int32)) C dX11_weeks_63 (by decide) ?_
    refine g_iconst (v := (1 : Int32)) C dX11_weeks_66 (by decide) ?_
    refine st_55 (j := 198) C dX11_weeks_67 (by decide) (by decide) rfl ?_
    refine g_aload_n C dX11_weeks_68 rfl rfl ?_
    refine get_X11_35 C dX11_weeks_69 (by decide) ?_
    refine g_sipush (v := (199 : Int32)) C dX11_weeks_72 (by decide) ?_
    refine g_aload_n C dX11_weeks_75 rfl rfl ?_
    refine get_X11_326 C dX11_weeks_76 (by decide) ?_
    refine st_55 (j := 199) C dX11_weeks_79 (by decide) (by decide) rfl ?_
    refine g_iconst (v := (0 : Int32)) C dX11_weeks_80 (by decide) ?_
    refine g_istore_n C dX11_weeks_81 rfl rfl ?_
    exact g_sub (b_X11_weeks_82 C R _ h) ⟨rfl, rfl, trivial⟩
  · refine g_iconst (v := (-1 : Int32)) C dX11_weeks_57 (by decide) ?_
    exact g_iret C R dX11_weeks_58 (fst_of h) (snd_of h)
set_option maxRecDepth 20000 in
set_option maxHeartbeats 2000000 in
theorem b_X11_weeks_28 {E : wEnv} {Y : YT} (C : Cx E Y cX11_weeks 3 RX11 50) {q : (Int32 × Mem)} (R : Rx E Y (some .int) (some (.int q.1)) q.2) (n : Nat) : ∀ {M : Mem} (_ : f_X11_weeks_28 n M = some q), G E Y 3 M 28 [(0, .ref (ad E 50 0))] [] := by
  induction n with
  | zero =>
    intro M h
    cases (show none = some q from h)
  | succ n ih =>
    intro M h
    rw [f_X11_weeks_28] at h
    refine g_aload_n C dX11_weeks_28 rfl rfl ?_
    refine get_X11_229 C dX11_weeks_29 (by decide) ?_
    refine g_if_ne (tgt := 50) C dX11_weeks_32 (by decide) h (fun h => ?_) (fun h => ?_)
    · exact g_sub (b_X11_weeks_50 C R h) ⟨rfl, trivial⟩
    · refine g_aload_n C dX11_weeks_35 rfl rfl ?_
      refine get_X11_126 C dX11_weeks_36 (by decide) ?_
      refine g_if_eq (tgt := 50) C dX11_weeks_39 (by decide) h (fun h => ?_) (fun h => ?_)
      · exact g_sub (b_X11_weeks_50 C R h) ⟨rfl, trivial⟩
      · refine g_aload_n C dX11_weeks_42 rfl rfl ?_
        refine g_iconst (v := (0 : Int32)) C dX11_weeks_43 (by decide) ?_
        obtain ⟨M11, hr11, h⟩ := Option.bind_eq_some_iff.mp h
        refine call_X11_332 C dX11_weeks_44 (by decide) (c_X11_readStep E 40 hr11) (by decide) rfl ?_
        refine g_goto (tgt := 28) C dX11_weeks_47 (by decide) ?_
        exact g_sub (ih h) ⟨rfl, trivial⟩
set_option maxRecDepth 20000 in
set_option maxHeartbeats 2000000 in
theorem c_X11_weeks (E : wEnv) {x1 : Int32} {M : Mem} {q : (Int32 × Mem)} (h : f_X11_weeks x1 M = some q) : Mt E yX11_weeks cX11_weeks 3 (some .int) 50 [.ref (ad E 50 0), .int x1] M (some (.int q.1)) q.2 := by
  unfold f_X11_weeks at h
  refine mt_intro (own := RX11) (lv0 := [(0, .ref (ad E 50 0)), (1, .int x1)]) (by decide) rfl rfl rfl (fun Y C R => ?_)
  refine g_aload_n C dX11_weeks_0 rfl rfl ?_
  refine g_iconst (v := (0 : Int32)) C dX11_weeks_1 (by decide) ?_
  refine put_X11_71 C dX11_weeks_2 (by decide) ?_
  refine g_aload_n C dX11_weeks_5 rfl rfl ?_
  refine g_iconst (v := (0 : Int32)) C dX11_weeks_6 (by decide) ?_
  refine put_X11_74 C dX11_weeks_7 (by decide) ?_
  refine g_aload_n C dX11_weeks_10 rfl rfl ?_
  refine g_iload_n C dX11_weeks_11 rfl rfl ?_
  refine g_sipush (v := (300 : Int32)) C dX11_weeks_12 (by decide) ?_
  obtain ⟨q3, hr3, h⟩ := Option.bind_eq_some_iff.mp h
  refine call_X11_287 C dX11_weeks_15 (by decide) (c_X11_starts E hr3) (by decide) rfl ?_
  refine g_if_ne (tgt := 23) C dX11_weeks_18 (by decide) h (fun h => ?_) (fun h => ?_)
  · refine g_aload_n C dX11_weeks_23 rfl rfl ?_
    refine g_iconst (v := (0 : Int32)) C dX11_weeks_24 (by decide) ?_
    refine put_X11_326 C dX11_weeks_25 (by decide) ?_
    exact g_sub (b_X11_weeks_28 C R _ h) ⟨rfl, trivial⟩
  · refine g_iconst (v := (-1 : Int32)) C dX11_weeks_21 (by decide) ?_
    exact g_iret C R dX11_weeks_22 (fst_of h) (snd_of h)
noncomputable def f_X11_isJurorAt (x1 : Int32) (M : Mem) : Option Int32 :=
  (f_X11_isIn x1.toInt64 (0 : Int64) (((M.1 55 0 0) - (1 : Int32)).toInt64)).bind fun r1 =>
  if isB r1 = true then some r1 else none
set_option maxRecDepth 20000 in
set_option maxHeartbeats 2000000 in
theorem c_X11_isJurorAt (E : wEnv) {x1 : Int32} {M : Mem} {q : Int32} (h : f_X11_isJurorAt x1 M = some q) : Mt E yX11_isJurorAt cX11_isJurorAt 2 (some .boolean) 1 [.ref (ad E 50 0), .int x1] M (some (.int q)) M := by
  unfold f_X11_isJurorAt at h
  refine mt_intro (own := RX11) (lv0 := [(0, .ref (ad E 50 0)), (1, .int x1)]) (by decide) rfl rfl rfl (fun Y C R => ?_)
  refine g_iload_n C dX11_isJurorAt_0 rfl rfl ?_
  refine g_i2l C dX11_isJurorAt_1 ?_
  refine g_lconst (v := (0 : Int64)) C dX11_isJurorAt_2 (by decide) ?_
  refine g_aload_n C dX11_isJurorAt_3 rfl rfl ?_
  refine get_X11_35 C dX11_isJurorAt_4 (by decide) ?_
  refine g_iconst (v := (0 : Int32)) C dX11_isJurorAt_7 (by decide) ?_
  refine ld_55 (j := 0) C dX11_isJurorAt_8 (by decide) (by decide) rfl ?_
  refine g_iconst (v := (1 : Int32)) C dX11_isJurorAt_9 (by decide) ?_
  refine g_isub C dX11_isJurorAt_10 ?_
  refine g_i2l C dX11_isJurorAt_11 ?_
  obtain ⟨r1, hr1, h⟩ := Option.bind_eq_some_iff.mp h
  refine call_X11_106 C dX11_isJurorAt_12 (c_X11_isIn E hr1) (by decide) rfl ?_
  obtain ⟨hz2, h⟩ := of_ite h
  exact g_zret C R dX11_isJurorAt_15 (Option.some.inj h) (isB_of hz2) rfl
noncomputable def f_X11_isWeatherAt (x1 : Int32) (M : Mem) : Option Int32 :=
  (f_X11_isIn x1.toInt64 (0 : Int64) (((M.1 55 0 2) - (1 : Int32)).toInt64)).bind fun r1 =>
  if isB r1 = true then some r1 else none
set_option maxRecDepth 20000 in
set_option maxHeartbeats 2000000 in
theorem c_X11_isWeatherAt (E : wEnv) {x1 : Int32} {M : Mem} {q : Int32} (h : f_X11_isWeatherAt x1 M = some q) : Mt E yX11_isWeatherAt cX11_isWeatherAt 2 (some .boolean) 1 [.ref (ad E 50 0), .int x1] M (some (.int q)) M := by
  unfold f_X11_isWeatherAt at h
  refine mt_intro (own := RX11) (lv0 := [(0, .ref (ad E 50 0)), (1, .int x1)]) (by decide) rfl rfl rfl (fun Y C R => ?_)
  refine g_iload_n C dX11_isWeatherAt_0 rfl rfl ?_
  refine g_i2l C dX11_isWeatherAt_1 ?_
  refine g_lconst (v := (0 : Int64)) C dX11_isWeatherAt_2 (by decide) ?_
  refine g_aload_n C dX11_isWeatherAt_3 rfl rfl ?_
  refine get_X11_35 C dX11_isWeatherAt_4 (by decide) ?_
  refine g_iconst (v := (2 : Int32)) C dX11_isWeatherAt_7 (by decide) ?_
  refine ld_55 (j := 2) C dX11_isWeatherAt_8 (by decide) (by decide) rfl ?_
  refine g_iconst (v := (1 : Int32)) C dX11_isWeatherAt_9 (by decide) ?_
  refine g_isub C dX11_isWeatherAt_10 ?_
  refine g_i2l C dX11_isWeatherAt_11 ?_
  obtain ⟨r1, hr1, h⟩ := Option.bind_eq_some_iff.mp h
  refine call_X11_106 C dX11_isWeatherAt_12 (c_X11_isIn E hr1) (by decide) rfl ?_
  obtain ⟨hz2, h⟩ := of_ite h
  exact g_zret C R dX11_isWeatherAt_15 (Option.some.inj h) (isB_of hz2) rfl
noncomputable def f_X11_isCropAt (x1 : Int32) (M : Mem) : Option Int32 :=
  (f_X11_isIn x1.toInt64 (0 : Int64) (((M.1 55 0 3) - (1 : Int32)).toInt64)).bind fun r1 =>
  if isB r1 = true then some r1 else none
set_option maxRecDepth 20000 in
set_option maxHeartbeats 2000000 in
theorem c_X11_isCropAt (E : wEnv) {x1 : Int32} {M : Mem} {q : Int32} (h : f_X11_isCropAt x1 M = some q) : Mt E yX11_isCropAt cX11_isCropAt 2 (some .boolean) 1 [.ref (ad E 50 0), .int x1] M (some (.int q)) M := by
  unfold f_X11_isCropAt at h
  refine mt_intro (own := RX11) (lv0 := [(0, .ref (ad E 50 0)), (1, .int x1)]) (by decide) rfl rfl rfl (fun Y C R => ?_)
  refine g_iload_n C dX11_isCropAt_0 rfl rfl ?_
  refine g_i2l C dX11_isCropAt_1 ?_
  refine g_lconst (v := (0 : Int64)) C dX11_isCropAt_2 (by decide) ?_
  refine g_aload_n C dX11_isCropAt_3 rfl rfl ?_
  refine get_X11_35 C dX11_isCropAt_4 (by decide) ?_
  refine g_iconst (v := (3 : Int32)) C dX11_isCropAt_7 (by decide) ?_
  refine ld_55 (j := 3) C dX11_isCropAt_8 (by decide) (by decide) rfl ?_
  refine g_iconst (v := (1 : Int32)) C dX11_isCropAt_9 (by decide) ?_
  refine g_isub C dX11_isCropAt_10 ?_
  refine g_i2l C dX11_isCropAt_11 ?_
  obtain ⟨r1, hr1, h⟩ := Option.bind_eq_some_iff.mp h
  refine call_X11_106 C dX11_isCropAt_12 (c_X11_isIn E hr1) (by decide) rfl ?_
  obtain ⟨hz2, h⟩ := of_ite h
  exact g_zret C R dX11_isCropAt_15 (Option.some.inj h) (isB_of hz2) rfl
noncomputable def f_X11_isSeated (x1 : Int32) (M : Mem) : Option Int32 :=
  (f_X11_has (M.1 55 0 10) x1).bind fun r1 =>
  if isB r1 = true then some r1 else none
set_option maxRecDepth 20000 in
set_option maxHeartbeats 2000000 in
theorem c_X11_isSeated (E : wEnv) {x1 : Int32} {M : Mem} {q : Int32} (h : f_X11_isSeated x1 M = some q) : Mt E yX11_isSeated cX11_isSeated 2 (some .boolean) 1 [.ref (ad E 50 0), .int x1] M (some (.int q)) M := by
  unfold f_X11_isSeated at h
  refine mt_intro (own := RX11) (lv0 := [(0, .ref (ad E 50 0)), (1, .int x1)]) (by decide) rfl rfl rfl (fun Y C R => ?_)
  refine g_aload_n C dX11_isSeated_0 rfl rfl ?_
  refine get_X11_35 C dX11_isSeated_1 (by decide) ?_
  refine g_bipush (v := (10 : Int32)) C dX11_isSeated_4 (by decide) ?_
  refine ld_55 (j := 10) C dX11_isSeated_6 (by decide) (by decide) rfl ?_
  refine g_iload_n C dX11_isSeated_7 rfl rfl ?_
  obtain ⟨r1, hr1, h⟩ := Option.bind_eq_some_iff.mp h
  refine call_X11_110 C dX11_isSeated_8 (c_X11_has E hr1) (by decide) rfl ?_
  obtain ⟨hz2, h⟩ := of_ite h
  exact g_zret C R dX11_isSeated_11 (Option.some.inj h) (isB_of hz2) rfl
noncomputable def f_X11_cut_ (x0 : Int32) : Option Int32 :=
  some (jmax (-99 : Int32) (jmin (99 : Int32) x0))
set_option maxRecDepth 20000 in
set_option maxHeartbeats 2000000 in
theorem c_X11_cut_ (E : wEnv) {x0 : Int32} {M : Mem} {q : Int32} (h : f_X11_cut_ x0 = some q) : Mt E yX11_cut_ cX11_cut_ 1 (some .int) 1 [.int x0] M (some (.int q)) M := by
  unfold f_X11_cut_ at h
  refine mt_intro (own := RX11) (lv0 := [(0, .int x0)]) (by decide) rfl rfl rfl (fun Y C R => ?_)
  refine g_bipush (v := (-99 : Int32)) C dX11_cut__0 (by decide) ?_
  refine g_bipush (v := (99 : Int32)) C dX11_cut__2 (by decide) ?_
  refine g_iload_n C dX11_cut__4 rfl rfl ?_
  refine call_X11_335 C dX11_cut__5 (by decide) rfl ?_
  refine call_X11_264 C dX11_cut__8 (by decide) rfl ?_
  exact g_iret C R dX11_cut__11 (Option.some.inj h) rfl
noncomputable def f_X11_many_42 (x1 : Int32) (M : Mem) : Option (Int32 × Mem) :=
  if x1 = (8 : Int32) then
    if (M.1 55 0 8) < 0 then
      (f_X11_refuse (8 : Int32) M).bind fun q6 =>
      some (q6.1, q6.2)
    else
      if inb x1 2375 = true then
       some ((M.1 55 0 x1.toNatClampNeg), M)
      else none
  else
    if inb x1 2375 = true then
     some ((M.1 55 0 x1.toNatClampNeg), M)
    else none
noncomputable def f_X11_many (x1 : Int32) (M : Mem) : Option (Int32 × Mem) :=
  let M1 := sR M 50 0 (upd (M.1 50 0) 1 (0 : Int32))
  let M2 := sR M1 50 0 (upd (M1.1 50 0) 0 (0 : Int32))
  (f_X11_isIn x1.toInt64 (0 : Int64) (11 : Int64)).bind fun r3 =>
  if r3 = 0 then
    (f_X11_refuse (5 : Int32) M2).bind fun q8 =>
    some (q8.1, q8.2)
  else
    if x1 = (4 : Int32) then
      if (M2.1 55 0 4) = 0 then
        (f_X11_refuse (8 : Int32) M2).bind fun q7 =>
        some (q7.1, q7.2)
      else
        f_X11_many_42 x1 M2
    else
      f_X11_many_42 x1 M2
set_option maxRecDepth 20000 in
set_option maxHeartbeats 2000000 in
theorem b_X11_many_42 {E : wEnv} {Y : YT} (C : Cx E Y cX11_many 2 RX11 1) {q : (Int32 × Mem)} (R : Rx E Y (some .int) (some (.int q.1)) q.2) {x1 : Int32} {M : Mem} (h : f_X11_many_42 x1 M = some q) : G E Y 2 M 42 [(0, .ref (ad E 50 0)), (1, .int x1)] [] := by
  unfold f_X11_many_42 at h
  refine g_iload_n C dX11_many_42 rfl rfl ?_
  refine g_bipush (v := (8 : Int32)) C dX11_many_43 (by decide) ?_
  refine g_icmp_ne (tgt := 65) C dX11_many_45 (by decide) h (fun h => ?_) (fun h => ?_)
  · refine g_aload_n C dX11_many_65 rfl rfl ?_
    refine get_X11_35 C dX11_many_66 (by decide) ?_
    refine g_iload_n C dX11_many_69 rfl rfl ?_
    obtain ⟨hb4, h⟩ := of_ite h
    refine ld_55 (j := _) C dX11_many_70 (by decide) hb4 rfl ?_
    exact g_iret C R dX11_many_71 (fst_of h) (snd_of h)
  · refine g_aload_n C dX11_many_48 rfl rfl ?_
    refine get_X11_35 C dX11_many_49 (by decide) ?_
    refine g_bipush (v := (8 : Int32)) C dX11_many_52 (by decide) ?_
    refine ld_55 (j := 8) C dX11_many_54 (by decide) (by decide) rfl ?_
    refine g_if_ge (tgt := 65) C dX11_many_55 (by decide) h (fun h => ?_) (fun h => ?_)
    · refine g_aload_n C dX11_many_65 rfl rfl ?_
      refine get_X11_35 C dX11_many_66 (by decide) ?_
      refine g_iload_n C dX11_many_69 rfl rfl ?_
      obtain ⟨hb5, h⟩ := of_ite h
      refine ld_55 (j := _) C dX11_many_70 (by decide) hb5 rfl ?_
      exact g_iret C R dX11_many_71 (fst_of h) (snd_of h)
    · refine g_aload_n C dX11_many_58 rfl rfl ?_
      refine g_bipush (v := (8 : Int32)) C dX11_many_59 (by decide) ?_
      obtain ⟨q6, hr6, h⟩ := Option.bind_eq_some_iff.mp h
      refine call_X11_340 C dX11_many_61 (by decide) (c_X11_refuse E hr6) (by decide) rfl ?_
      exact g_iret C R dX11_many_64 (fst_of h) (snd_of h)
set_option maxRecDepth 20000 in
set_option maxHeartbeats 2000000 in
theorem c_X11_many (E : wEnv) {x1 : Int32} {M : Mem} {q : (Int32 × Mem)} (h : f_X11_many x1 M = some q) : Mt E yX11_many cX11_many 2 (some .int) 1 [.ref (ad E 50 0), .int x1] M (some (.int q.1)) q.2 := by
  unfold f_X11_many at h
  refine mt_intro (own := RX11) (lv0 := [(0, .ref (ad E 50 0)), (1, .int x1)]) (by decide) rfl rfl rfl (fun Y C R => ?_)
  refine g_aload_n C dX11_many_0 rfl rfl ?_
  refine g_iconst (v := (0 : Int32)) C dX11_many_1 (by decide) ?_
  refine put_X11_71 C dX11_many_2 (by decide) ?_
  refine g_aload_n C dX11_many_5 rfl rfl ?_
  refine g_iconst (v := (0 : Int32)) C dX11_many_6 (by decide) ?_
  refine put_X11_74 C dX11_many_7 (by decide) ?_
  refine g_iload_n C dX11_many_10 rfl rfl ?_
  refine g_i2l C dX11_many_11 ?_
  refine g_lconst (v := (0 : Int64)) C dX11_many_12 (by decide) ?_
  refine g_ldc2 C dX11_many_13 qc_X11_338 ?_
  obtain ⟨r3, hr3, h⟩ := Option.bind_eq_some_iff.mp h
  refine call_X11_106 C dX11_many_16 (c_X11_isIn E hr3) (by decide) rfl ?_
  refine g_if_ne (tgt := 28) C dX11_many_19 (by decide) h (fun h => ?_) (fun h => ?_)
  · refine g_iload_n C dX11_many_28 rfl rfl ?_
    refine g_iconst (v := (4 : Int32)) C dX11_many_29 (by decide) ?_
    refine g_icmp_ne (tgt := 42) C dX11_many_30 (by decide) h (fun h => ?_) (fun h => ?_)
    · exact g_sub (b_X11_many_42 C R h) ⟨rfl, rfl, trivial⟩
    · refine g_aload_n C dX11_many_33 rfl rfl ?_
      refine get_X11_35 C dX11_many_34 (by decide) ?_
      refine g_iconst (v := (4 : Int32)) C dX11_many_37 (by decide) ?_
      refine ld_55 (j := 4) C dX11_many_38 (by decide) (by decide) rfl ?_
      refine g_if_eq (tgt := 58) C dX11_many_39 (by decide) h (fun h => ?_) (fun h => ?_)
      · refine g_aload_n C dX11_many_58 rfl rfl ?_
        refine g_bipush (v := (8 : Int32)) C dX11_many_59 (by decide) ?_
        obtain ⟨q7, hr7, h⟩ := Option.bind_eq_some_iff.mp h
        refine call_X11_340 C dX11_many_61 (by decide) (c_X11_refuse E hr7) (by decide) rfl ?_
        exact g_iret C R dX11_many_64 (fst_of h) (snd_of h)
      · exact g_sub (b_X11_many_42 C R h) ⟨rfl, rfl, trivial⟩
  · refine g_aload_n C dX11_many_22 rfl rfl ?_
    refine g_iconst (v := (5 : Int32)) C dX11_many_23 (by decide) ?_
    obtain ⟨q8, hr8, h⟩ := Option.bind_eq_some_iff.mp h
    refine call_X11_340 C dX11_many_24 (by decide) (c_X11_refuse E hr8) (by decide) rfl ?_
    exact g_iret C R dX11_many_27 (fst_of h) (snd_of h)
noncomputable def f_X11_juror (x1 : Int32) (x2 : Int32) (M : Mem) : Option (Int32 × Mem) :=
  let M1 := sR M 50 0 (upd (M.1 50 0) 1 (0 : Int32))
  let M2 := sR M1 50 0 (upd (M1.1 50 0) 0 (0 : Int32))
  (f_X11_isJurorAt x1 M2).bind fun r3 =>
  if r3 = 0 then
    (f_X11_refuse (2 : Int32) M2).bind fun q8 =>
    some (q8.1, q8.2)
  else
    (f_X11_isIn x2.toInt64 (0 : Int64) (3 : Int64)).bind fun r4 =>
    if r4 = 0 then
      (f_X11_refuse (5 : Int32) M2).bind fun q7 =>
      some (q7.1, q7.2)
    else
      if x2 = 0 then
        if inb ((42 : Int32) + x1) 2375 = true then
         some ((M2.1 55 0 (((42 : Int32) + x1).toNatClampNeg)), M2)
        else none
      else
        if inb (((12 : Int32) + ((10 : Int32) * (x2 - (1 : Int32)))) + x1) 2375 = true then
         some ((M2.1 55 0 ((((12 : Int32) + ((10 : Int32) * (x2 - (1 : Int32)))) + x1).toNatClampNeg)), M2)
        else none
set_option maxRecDepth 20000 in
set_option maxHeartbeats 2000000 in
theorem c_X11_juror (E : wEnv) {x1 : Int32} {x2 : Int32} {M : Mem} {q : (Int32 × Mem)} (h : f_X11_juror x1 x2 M = some q) : Mt E yX11_juror cX11_juror 3 (some .int) 2 [.ref (ad E 50 0), .int x1, .int x2] M (some (.int q.1)) q.2 := by
  unfold f_X11_juror at h
  refine mt_intro (own := RX11) (lv0 := [(0, .ref (ad E 50 0)), (1, .int x1), (2, .int x2)]) (by decide) rfl rfl rfl (fun Y C R => ?_)
  refine g_aload_n C dX11_juror_0 rfl rfl ?_
  refine g_iconst (v := (0 : Int32)) C dX11_juror_1 (by decide) ?_
  refine put_X11_71 C dX11_juror_2 (by decide) ?_
  refine g_aload_n C dX11_juror_5 rfl rfl ?_
  refine g_iconst (v := (0 : Int32)) C dX11_juror_6 (by decide) ?_
  refine put_X11_74 C dX11_juror_7 (by decide) ?_
  refine g_aload_n C dX11_juror_10 rfl rfl ?_
  refine g_iload_n C dX11_juror_11 rfl rfl ?_
  obtain ⟨r3, hr3, h⟩ := Option.bind_eq_some_iff.mp h
  refine call_X11_343 C dX11_juror_12 (by decide) (c_X11_isJurorAt E hr3) (by decide) rfl ?_
  refine g_if_ne (tgt := 24) C dX11_juror_15 (by decide) h (fun h => ?_) (fun h => ?_)
  · refine g_iload_n C dX11_juror_24 rfl rfl ?_
    refine g_i2l C dX11_juror_25 ?_
    refine g_lconst (v := (0 : Int64)) C dX11_juror_26 (by decide) ?_
    refine g_ldc2 C dX11_juror_27 qc_X11_104 ?_
    obtain ⟨r4, hr4, h⟩ := Option.bind_eq_some_iff.mp h
    refine call_X11_106 C dX11_juror_30 (c_X11_isIn E hr4) (by decide) rfl ?_
    refine g_if_ne (tgt := 42) C dX11_juror_33 (by decide) h (fun h => ?_) (fun h => ?_)
    · refine g_iload_n C dX11_juror_42 rfl rfl ?_
      refine g_if_ne (tgt := 58) C dX11_juror_43 (by decide) h (fun h => ?_) (fun h => ?_)
      · refine g_aload_n C dX11_juror_58 rfl rfl ?_
        refine get_X11_35 C dX11_juror_59 (by decide) ?_
        refine g_bipush (v := (12 : Int32)) C dX11_juror_62 (by decide) ?_
        refine g_bipush (v := (10 : Int32)) C dX11_juror_64 (by decide) ?_
        refine g_iload_n C dX11_juror_66 rfl rfl ?_
        refine g_iconst (v := (1 : Int32)) C dX11_juror_67 (by decide) ?_
        refine g_isub C dX11_juror_68 ?_
        refine g_imul C dX11_juror_69 ?_
        refine g_iadd C dX11_juror_70 ?_
        refine g_iload_n C dX11_juror_71 rfl rfl ?_
        refine g_iadd C dX11_juror_72 ?_
        obtain ⟨hb5, h⟩ := of_ite h
        refine ld_55 (j := _) C dX11_juror_73 (by decide) hb5 rfl ?_
        exact g_iret C R dX11_juror_74 (fst_of h) (snd_of h)
      · refine g_aload_n C dX11_juror_46 rfl rfl ?_
        refine get_X11_35 C dX11_juror_47 (by decide) ?_
        refine g_bipush (v := (42 : Int32)) C dX11_juror_50 (by decide) ?_
        refine g_iload_n C dX11_juror_52 rfl rfl ?_
        refine g_iadd C dX11_juror_53 ?_
        obtain ⟨hb6, h⟩ := of_ite h
        refine ld_55 (j := _) C dX11_juror_54 (by decide) hb6 rfl ?_
        refine g_goto (tgt := 74) C dX11_juror_55 (by decide) ?_
        exact g_iret C R dX11_juror_74 (fst_of h) (snd_of h)
    · refine g_aload_n C dX11_juror_36 rfl rfl ?_
      refine g_iconst (v := (5 : Int32)) C dX11_juror_37 (by decide) ?_
      obtain ⟨q7, hr7, h⟩ := Option.bind_eq_some_iff.mp h
      refine call_X11_340 C dX11_juror_38 (by decide) (c_X11_refuse E hr7) (by decide) rfl ?_
      exact g_iret C R dX11_juror_41 (fst_of h) (snd_of h)
  · refine g_aload_n C dX11_juror_18 rfl rfl ?_
    refine g_iconst (v := (2 : Int32)) C dX11_juror_19 (by decide) ?_
    obtain ⟨q8, hr8, h⟩ := Option.bind_eq_some_iff.mp h
    refine call_X11_340 C dX11_juror_20 (by decide) (c_X11_refuse E hr8) (by decide) rfl ?_
    exact g_iret C R dX11_juror_23 (fst_of h) (snd_of h)
