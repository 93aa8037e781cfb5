noncomputable def f_X11_doAll_2 (rec : Int32 → Int32 → Mem → Option Mem) (x2 : Int32) : Nat → Int32 → Mem → Option Mem
  | 0, _, _ => none
  | n + 1, x3, M =>
  if x3 < x2 then
    if (M.1 50 0 38) = 0 then
      (f_X11_doOne rec x3 M).bind fun M1 =>
      if inb (((200 : Int32) + ((9 : Int32) * x3)) + (8 : Int32)) 2375 = true then
       let x3_3 := (M1.1 55 0 ((((200 : Int32) + ((9 : Int32) * x3)) + (8 : Int32)).toNatClampNeg))
       f_X11_doAll_2 rec x2 n x3_3 M1
      else none
    else
      some M
  else
    some M
noncomputable def f_X11_doAll : Nat → Int32 → Int32 → Mem → Option Mem
  | 0, _, _, _ => none
  | n + 1, x1, x2, M =>
  f_X11_doAll_2 (f_X11_doAll n) x2 FU x1 M
set_option maxRecDepth 20000 in
set_option maxHeartbeats 2000000 in
theorem b_X11_doAll_2 {E : wEnv} {Y : YT} {dd dr : Nat} {rec : Int32 → Int32 → Mem → Option Mem} (C : Cx E Y cX11_doAll 4 RX11 dd) (hrec : ∀ {x1 : Int32} {x2 : Int32} {M : Mem} {q : Mem}, rec x1 x2 M = some q → Mt E yX11_doAll cX11_doAll 4 none dr [.ref (ad E 50 0), .int x1, .int x2] M none q) (hdr : dr + 2 ≤ dd) (hdD : 8 ≤ dr) {q : Mem} (R : Rx E Y none none q) {x2 : Int32} (n : Nat) : ∀ {x3 : Int32} {M : Mem} (_ : f_X11_doAll_2 rec x2 n x3 M = some q), G E Y 4 M 2 [(0, .ref (ad E 50 0)), (2, .int x2), (3, .int x3)] [] := by
  induction n with
  | zero =>
    intro x3 M h
    cases (show none = some q from h)
  | succ n ih =>
    intro x3 M h
    rw [f_X11_doAll_2] at h
    refine g_iload_n C dX11_doAll_2 rfl rfl ?_
    refine g_iload_n C dX11_doAll_3 rfl rfl ?_
    refine g_icmp_ge (tgt := 39) C dX11_doAll_4 (by decide) h (fun h => ?_) (fun h => ?_)
    · exact g_vret C R dX11_doAll_39 (Option.some.inj h)
    · refine g_aload_n C dX11_doAll_7 rfl rfl ?_
      refine get_X11_497 C dX11_doAll_8 (by decide) ?_
      refine g_if_ne (tgt := 39) C dX11_doAll_11 (by decide) h (fun h => ?_) (fun h => ?_)
      · exact g_vret C R dX11_doAll_39 (Option.some.inj h)
      · refine g_aload_n C dX11_doAll_14 rfl rfl ?_
        refine g_iload_n C dX11_doAll_15 rfl rfl ?_
        obtain ⟨M1, hr1, h⟩ := Option.bind_eq_some_iff.mp h
        refine call_X11_515 C dX11_doAll_16 (by decide) (c_X11_doOne E (dd := dr + 1) hrec (Nat.le_refl _) (by omega) hr1) (by omega) rfl ?_
        refine g_aload_n C dX11_doAll_19 rfl rfl ?_
        refine get_X11_35 C dX11_doAll_20 (by decide) ?_
        refine g_sipush (v := (200 : Int32)) C dX11_doAll_23 (by decide) ?_
        refine g_bipush (v := (9 : Int32)) C dX11_doAll_26 (by decide) ?_
        refine g_iload_n C dX11_doAll_28 rfl rfl ?_
        refine g_imul C dX11_doAll_29 ?_
        refine g_iadd C dX11_doAll_30 ?_
        refine g_bipush (v := (8 : Int32)) C dX11_doAll_31 (by decide) ?_
        refine g_iadd C dX11_doAll_33 ?_
        obtain ⟨hb2, h⟩ := of_ite h
        refine ld_55 (j := _) C dX11_doAll_34 (by decide) hb2 rfl ?_
        refine g_istore_n C dX11_doAll_35 rfl rfl ?_
        refine g_goto (tgt := 2) C dX11_doAll_36 (by decide) ?_
        exact g_sub (ih h) ⟨rfl, rfl, rfl, trivial⟩
set_option maxRecDepth 20000 in
set_option maxHeartbeats 2000000 in
theorem c_X11_doAll (E : wEnv) (n : Nat) : ∀ {x1 : Int32} {x2 : Int32} {M : Mem} {q : Mem} (_ : f_X11_doAll n x1 x2 M = some q), Mt E yX11_doAll cX11_doAll 4 none (8 + 2 * n) [.ref (ad E 50 0), .int x1, .int x2] M none q := by
  induction n with
  | zero =>
    intro x1 x2 M q h
    cases (show none = some q from h)
  | succ n ih =>
    intro x1 x2 M q h
    rw [f_X11_doAll] at h
    refine mt_intro (own := RX11) (lv0 := [(0, .ref (ad E 50 0)), (1, .int x1), (2, .int x2)]) (by decide) rfl rfl rfl (fun Y C R => ?_)
    refine g_iload_n C dX11_doAll_0 rfl rfl ?_
    refine g_istore_n C dX11_doAll_1 rfl rfl ?_
    exact g_sub (b_X11_doAll_2 (dr := 8 + 2 * n) C ih (by omega) (by omega) R _ h) ⟨rfl, rfl, rfl, trivial⟩
noncomputable def f_X11_runs (x1 : Int32) (M : Mem) : Option Mem :=
  let M1 := sR M 50 0 (upd (M.1 50 0) 39 x1)
  let M2 := sR M1 50 0 (upd (M1.1 50 0) 40 (0 : Int32))
  let M3 := sR M2 50 0 (upd (M2.1 50 0) 41 (0 : Int32))
  let M4 := sR M3 50 0 (upd (M3.1 50 0) 42 (0 : Int32))
  let M5 := sR M4 50 0 (upd (M4.1 50 0) 43 (0 : Int32))
  let M6 := sR M5 50 0 (upd (M5.1 50 0) 44 (0 : Int32))
  let M7 := sR M6 50 0 (upd (M6.1 50 0) 45 (0 : Int32))
  let M8 := sR M7 50 0 (upd (M7.1 50 0) 38 (0 : Int32))
  (f_X11_doAll 40 (0 : Int32) (M8.1 55 0 199) M8).bind fun M9 =>
  some M9
set_option maxRecDepth 20000 in
set_option maxHeartbeats 2000000 in
theorem c_X11_runs (E : wEnv) {x1 : Int32} {M : Mem} {q : Mem} (h : f_X11_runs x1 M = some q) : Mt E yX11_runs cX11_runs 2 none 89 [.ref (ad E 50 0), .int x1] M none q := by
  unfold f_X11_runs at h
  refine mt_intro (own := RX11) (lv0 := [(0, .ref (ad E 50 0)), (1, .int x1)]) (by decide) rfl rfl rfl (fun Y C R => ?_)
  refine g_aload_n C dX11_runs_0 rfl rfl ?_
  refine g_iload_n C dX11_runs_1 rfl rfl ?_
  refine put_X11_472 C dX11_runs_2 (by decide) ?_
  refine g_aload_n C dX11_runs_5 rfl rfl ?_
  refine g_iconst (v := (0 : Int32)) C dX11_runs_6 (by decide) ?_
  refine put_X11_494 C dX11_runs_7 (by decide) ?_
  refine g_aload_n C dX11_runs_10 rfl rfl ?_
  refine g_iconst (v := (0 : Int32)) C dX11_runs_11 (by decide) ?_
  refine put_X11_503 C dX11_runs_12 (by decide) ?_
  refine g_aload_n C dX11_runs_15 rfl rfl ?_
  refine g_iconst (v := (0 : Int32)) C dX11_runs_16 (by decide) ?_
  refine put_X11_479 C dX11_runs_17 (by decide) ?_
  refine g_aload_n C dX11_runs_20 rfl rfl ?_
  refine g_iconst (v := (0 : Int32)) C dX11_runs_21 (by decide) ?_
  refine put_X11_482 C dX11_runs_22 (by decide) ?_
  refine g_aload_n C dX11_runs_25 rfl rfl ?_
  refine g_iconst (v := (0 : Int32)) C dX11_runs_26 (by decide) ?_
  refine put_X11_485 C dX11_runs_27 (by decide) ?_
  refine g_aload_n C dX11_runs_30 rfl rfl ?_
  refine g_iconst (v := (0 : Int32)) C dX11_runs_31 (by decide) ?_
  refine put_X11_500 C dX11_runs_32 (by decide) ?_
  refine g_aload_n C dX11_runs_35 rfl rfl ?_
  refine g_iconst (v := (0 : Int32)) C dX11_runs_36 (by decide) ?_
  refine put_X11_497 C dX11_runs_37 (by decide) (Or.inl rfl) ?_
  refine g_aload_n C dX11_runs_40 rfl rfl ?_
  refine g_iconst (v := (0 : Int32)) C dX11_runs_41 (by decide) ?_
  refine g_aload_n C dX11_runs_42 rfl rfl ?_
  refine get_X11_35 C dX11_runs_43 (by decide) ?_
  refine g_sipush (v := (199 : Int32)) C dX11_runs_46 (by decide) ?_
  refine ld_55 (j := 199) C dX11_runs_49 (by decide) (by decide) rfl ?_
  obtain ⟨M9, hr9, h⟩ := Option.bind_eq_some_iff.mp h
  refine call_X11_512 C dX11_runs_50 (by decide) (c_X11_doAll E 40 hr9) (by decide) rfl ?_
  exact g_vret C R dX11_runs_53 (Option.some.inj h)
noncomputable def f_X11_live (x1 : Int32) (M : Mem) : Option (Int32 × Mem) :=
  let M1 := sR M 50 0 (upd (M.1 50 0) 1 (0 : Int32))
  let M2 := sR M1 50 0 (upd (M1.1 50 0) 0 (0 : Int32))
  (f_X11_isIn x1.toInt64 (0 : Int64) (9999 : Int64)).bind fun r3 =>
  if r3 = 0 then
    (f_X11_refuse (5 : Int32) M2).bind fun q12 =>
    some (q12.1, q12.2)
  else
    if (M2.1 55 0 198) = 0 then
      (f_X11_refuse (8 : Int32) M2).bind fun q11 =>
      some (q11.1, q11.2)
    else
      (f_X11_runs x1 M2).bind fun M4 =>
      let M5 := sR M4 63 0 (upd (M4.1 63 0) 0 (M4.1 50 0 41))
      let M6 := sR M5 63 0 (upd (M5.1 63 0) 1 (M5.1 50 0 42))
      let M7 := sR M6 63 0 (upd (M6.1 63 0) 2 (M6.1 50 0 43))
      let M8 := sR M7 63 0 (upd (M7.1 63 0) 3 (M7.1 50 0 44))
      let M9 := sR M8 63 0 (upd (M8.1 63 0) 4 (M8.1 50 0 45))
      let M10 := sR M9 50 0 (upd (M9.1 50 0) 37 (1 : Int32))
      some ((M10.1 50 0 40), M10)
set_option maxRecDepth 20000 in
set_option maxHeartbeats 2000000 in
theorem c_X11_live (E : wEnv) {x1 : Int32} {M : Mem} {q : (Int32 × Mem)} (h : f_X11_live x1 M = some q) : Mt E yX11_live cX11_live 2 (some .int) 90 [.ref (ad E 50 0), .int x1] M (some (.int q.1)) q.2 := by
  unfold f_X11_live at h
  refine mt_intro (own := RX11) (lv0 := [(0, .ref (ad E 50 0)), (1, .int x1)]) (by decide) rfl rfl rfl (fun Y C R => ?_)
  refine g_aload_n C dX11_live_0 rfl rfl ?_
  refine g_iconst (v := (0 : Int32)) C dX11_live_1 (by decide) ?_
  refine put_X11_71 C dX11_live_2 (by decide) ?_
  refine g_aload_n C dX11_live_5 rfl rfl ?_
  refine g_iconst (v := (0 : Int32)) C dX11_live_6 (by decide) ?_
  refine put_X11_74 C dX11_live_7 (by decide) ?_
  refine g_iload_n C dX11_live_10 rfl rfl ?_
  refine g_i2l C dX11_live_11 ?_
  refine g_lconst (v := (0 : Int64)) C dX11_live_12 (by decide) ?_
  refine g_ldc2 C dX11_live_13 qc_X11_518 ?_
  obtain ⟨r3, hr3, h⟩ := Option.bind_eq_some_iff.mp h
  refine call_X11_106 C dX11_live_16 (c_X11_isIn E hr3) (by decide) rfl ?_
  refine g_if_ne (tgt := 28) C dX11_live_19 (by decide) h (fun h => ?_) (fun h => ?_)
  · refine g_aload_n C dX11_live_28 rfl rfl ?_
    refine get_X11_35 C dX11_live_29 (by decide) ?_
    refine g_sipush (v := (198 : Int32)) C dX11_live_32 (by decide) ?_
    refine ld_55 (j := 198) C dX11_live_35 (by decide) (by decide) rfl ?_
    refine g_if_ne (tgt := 46) C dX11_live_36 (by decide) h (fun h => ?_) (fun h => ?_)
    · refine g_aload_n C dX11_live_46 rfl rfl ?_
      refine g_iload_n C dX11_live_47 rfl rfl ?_
      obtain ⟨M4, hr4, h⟩ := Option.bind_eq_some_iff.mp h
      refine call_X11_520 C dX11_live_48 (by decide) (c_X11_runs E hr4) (by decide) rfl ?_
      refine g_aload_n C dX11_live_51 rfl rfl ?_
      refine get_X11_65 C dX11_live_52 (by decide) ?_
      refine g_iconst (v := (0 : Int32)) C dX11_live_55 (by decide) ?_
      refine g_aload_n C dX11_live_56 rfl rfl ?_
      refine get_X11_503 C dX11_live_57 (by decide) ?_
      refine st_63 (j := 0) C dX11_live_60 (by decide) (by decide) rfl ?_
      refine g_aload_n C dX11_live_61 rfl rfl ?_
      refine get_X11_65 C dX11_live_62 (by decide) ?_
      refine g_iconst (v := (1 : Int32)) C dX11_live_65 (by decide) ?_
      refine g_aload_n C dX11_live_66 rfl rfl ?_
      refine get_X11_479 C dX11_live_67 (by decide) ?_
      refine st_63 (j := 1) C dX11_live_70 (by decide) (by decide) rfl ?_
      refine g_aload_n C dX11_live_71 rfl rfl ?_
      refine get_X11_65 C dX11_live_72 (by decide) ?_
      refine g_iconst (v := (2 : Int32)) C dX11_live_75 (by decide) ?_
      refine g_aload_n C dX11_live_76 rfl rfl ?_
      refine get_X11_482 C dX11_live_77 (by decide) ?_
      refine st_63 (j := 2) C dX11_live_80 (by decide) (by decide) rfl ?_
      refine g_aload_n C dX11_live_81 rfl rfl ?_
      refine get_X11_65 C dX11_live_82 (by decide) ?_
      refine g_iconst (v := (3 : Int32)) C dX11_live_85 (by decide) ?_
      refine g_aload_n C dX11_live_86 rfl rfl ?_
      refine get_X11_485 C dX11_live_87 (by decide) ?_
      refine st_63 (j := 3) C dX11_live_90 (by decide) (by decide) rfl ?_
      refine g_aload_n C dX11_live_91 rfl rfl ?_
      refine get_X11_65 C dX11_live_92 (by decide) ?_
      refine g_iconst (v := (4 : Int32)) C dX11_live_95 (by decide) ?_
      refine g_aload_n C dX11_live_96 rfl rfl ?_
      refine get_X11_500 C dX11_live_97 (by decide) ?_
      refine st_63 (j := 4) C dX11_live_100 (by decide) (by decide) rfl ?_
      refine g_aload_n C dX11_live_101 rfl rfl ?_
      refine g_iconst (v := (1 : Int32)) C dX11_live_102 (by decide) ?_
      refine put_X11_523 C dX11_live_103 (by decide) (Or.inr rfl) ?_
      refine g_aload_n C dX11_live_106 rfl rfl ?_
      refine get_X11_494 C dX11_live_107 (by decide) ?_
      exact g_iret C R dX11_live_110 (fst_of h) (snd_of h)
    · refine g_aload_n C dX11_live_39 rfl rfl ?_
      refine g_bipush (v := (8 : Int32)) C dX11_live_40 (by decide) ?_
      obtain ⟨q11, hr11, h⟩ := Option.bind_eq_some_iff.mp h
      refine call_X11_340 C dX11_live_42 (by decide) (c_X11_refuse E hr11) (by decide) rfl ?_
      exact g_iret C R dX11_live_45 (fst_of h) (snd_of h)
  · refine g_aload_n C dX11_live_22 rfl rfl ?_
    refine g_iconst (v := (5 : Int32)) C dX11_live_23 (by decide) ?_
    obtain ⟨q12, hr12, h⟩ := Option.bind_eq_some_iff.mp h
    refine call_X11_340 C dX11_live_24 (by decide) (c_X11_refuse E hr12) (by decide) rfl ?_
    exact g_iret C R dX11_live_27 (fst_of h) (snd_of h)
noncomputable def f_X11_lived (x1 : Int32) (M : Mem) : Option (Int32 × Mem) :=
  let M1 := sR M 50 0 (upd (M.1 50 0) 1 (0 : Int32))
  let M2 := sR M1 50 0 (upd (M1.1 50 0) 0 (0 : Int32))
  (f_X11_isIn x1.toInt64 (0 : Int64) (4 : Int64)).bind fun r3 =>
  if r3 = 0 then
    (f_X11_refuse (5 : Int32) M2).bind fun q6 =>
    some (q6.1, q6.2)
  else
    if (M2.1 50 0 37) = 0 then
      (f_X11_refuse (8 : Int32) M2).bind fun q4 =>
      some (q4.1, q4.2)
    else
      if inb x1 5 = true then
       some ((M2.1 63 0 x1.toNatClampNeg), M2)
      else none
set_option maxRecDepth 20000 in
set_option maxHeartbeats 2000000 in
theorem c_X11_lived (E : wEnv) {x1 : Int32} {M : Mem} {q : (Int32 × Mem)} (h : f_X11_lived x1 M = some q) : Mt E yX11_lived cX11_lived 2 (some .int) 1 [.ref (ad E 50 0), .int x1] M (some (.int q.1)) q.2 := by
  unfold f_X11_lived at h
  refine mt_intro (own := RX11) (lv0 := [(0, .ref (ad E 50 0)), (1, .int x1)]) (by decide) rfl rfl rfl (fun Y C R => ?_)
  refine g_aload_n C dX11_lived_0 rfl rfl ?_
  refine g_iconst (v := (0 : Int32)) C dX11_lived_1 (by decide) ?_
  refine put_X11_71 C dX11_lived_2 (by decide) ?_
  refine g_aload_n C dX11_lived_5 rfl rfl ?_
  refine g_iconst (v := (0 : Int32)) C dX11_lived_6 (by decide) ?_
  refine put_X11_74 C dX11_lived_7 (by decide) ?_
  refine g_iload_n C dX11_lived_10 rfl rfl ?_
  refine g_i2l C dX11_lived_11 ?_
  refine g_lconst (v := (0 : Int64)) C dX11_lived_12 (by decide) ?_
  refine g_ldc2 C dX11_lived_13 qc_X11_526 ?_
  obtain ⟨r3, hr3, h⟩ := Option.bind_eq_some_iff.mp h
  refine call_X11_106 C dX11_lived_16 (c_X11_isIn E hr3) (by decide) rfl ?_
  refine g_if_ne (tgt := 28) C dX11_lived_19 (by decide) h (fun h => ?_) (fun h => ?_)
  · refine g_aload_n C dX11_lived_28 rfl rfl ?_
    refine get_X11_523 C dX11_lived_29 (by decide) ?_
    refine g_if_eq (tgt := 44) C dX11_lived_32 (by decide) h (fun h => ?_) (fun h => ?_)
    · refine g_aload_n C dX11_lived_44 rfl rfl ?_
      refine g_bipush (v := (8 : Int32)) C dX11_lived_45 (by decide) ?_
      obtain ⟨q4, hr4, h⟩ := Option.bind_eq_some_iff.mp h
      refine call_X11_340 C dX11_lived_47 (by decide) (c_X11_refuse E hr4) (by decide) rfl ?_
      exact g_iret C R dX11_lived_50 (fst_of h) (snd_of h)
    · refine g_aload_n C dX11_lived_35 rfl rfl ?_
      refine get_X11_65 C dX11_lived_36 (by decide) ?_
      refine g_iload_n C dX11_lived_39 rfl rfl ?_
      obtain ⟨hb5, h⟩ := of_ite h
      refine ld_63 (j := _) C dX11_lived_40 (by decide) hb5 rfl ?_
      refine g_goto (tgt := 50) C dX11_lived_41 (by decide) ?_
      exact g_iret C R dX11_lived_50 (fst_of h) (snd_of h)
  · refine g_aload_n C dX11_lived_22 rfl rfl ?_
    refine g_iconst (v := (5 : Int32)) C dX11_lived_23 (by decide) ?_
    obtain ⟨q6, hr6, h⟩ := Option.bind_eq_some_iff.mp h
    refine call_X11_340 C dX11_lived_24 (by decide) (c_X11_refuse E hr6) (by decide) rfl ?_
    exact g_iret C R dX11_lived_27 (fst_of h) (snd_of h)
noncomputable def f_X11_mean_145 (k173 : Mem → Option (Int32 × Mem)) (x1 : Int32) (x2 : Int32) (x3 : Int32) (l4 : Int64) (x6 : Int32) : Nat → Int32 → Mem → Option (Int32 × Mem)
  | 0, _, _ => none
  | n + 1, x7, M =>
  if x7 < (198 : Int32) then
    if inb x7 198 = true then
     if inb x7 2375 = true then
      let M15 := sR M 55 0 (upd (M.1 55 0) x7.toNatClampNeg (M.1 64 0 x7.toNatClampNeg))
      f_X11_mean_145 k173 x1 x2 x3 l4 x6 n (x7 + (1 : Int32)) M15
     else none
    else none
  else
    k173 M
noncomputable def f_X11_mean_112 (x1 : Int32) (x2 : Int32) (x3 : Int32) : Nat → Int64 → Int32 → Mem → Option (Int32 × Mem)
  | 0, _, _, _ => none
  | n + 1, l4, x6, M =>
  if x6 < x3 then
    (f_X11_runs (x2 + x6) M).bind fun M10 =>
    if inb ((194 : Int32) + x1) 2375 = true then
     let l4_12 := (l4 + (M10.1 55 0 (((194 : Int32) + x1).toNatClampNeg)).toInt64)
     f_X11_mean_145 (fun M_16 =>
         f_X11_mean_112 x1 x2 x3 n l4_12 (x6 + (1 : Int32)) M_16) x1 x2 x3 l4_12 x6 FU (0 : Int32) M10
    else none
  else
    (f_X11_fraction l4 x3.toInt64 M).bind fun q8 =>
    if isB q8.1 = true then some (q8.1, q8.2) else none
noncomputable def f_X11_mean_78 (x1 : Int32) (x2 : Int32) (x3 : Int32) : Nat → Int32 → Mem → Option (Int32 × Mem)
  | 0, _, _ => none
  | n + 1, x4, M =>
  if x4 < (198 : Int32) then
    if inb x4 2375 = true then
     if inb x4 198 = true then
      let M19 := sR M 64 0 (upd (M.1 64 0) x4.toNatClampNeg (M.1 55 0 x4.toNatClampNeg))
      f_X11_mean_78 x1 x2 x3 n (x4 + (1 : Int32)) M19
     else none
    else none
  else
    f_X11_mean_112 x1 x2 x3 FU (0 : Int64) (0 : Int32) M
noncomputable def f_X11_mean (x1 : Int32) (x2 : Int32) (x3 : Int32) (M : Mem) : Option (Int32 × Mem) :=
  let M1 := sR M 50 0 (upd (M.1 50 0) 1 (0 : Int32))
  let M2 := sR M1 50 0 (upd (M1.1 50 0) 0 (0 : Int32))
  (f_X11_isCropAt x1 M2).bind fun r3 =>
  if r3 = 0 then
    (f_X11_no (2 : Int32) M2).bind fun q24 =>
    if isB q24.1 = true then some (q24.1, q24.2) else none
  else
    (f_X11_isIn x3.toInt64 (1 : Int64) (20 : Int64)).bind fun r4 =>
    if r4 = 0 then
      (f_X11_no (5 : Int32) M2).bind fun q5 =>
      if isB q5.1 = true then some (q5.1, q5.2) else none
    else
      (f_X11_isIn x2.toInt64 (0 : Int64) (((10000 : Int32) - x3).toInt64)).bind fun r7 =>
      if r7 = 0 then
        (f_X11_no (5 : Int32) M2).bind fun q22 =>
        if isB q22.1 = true then some (q22.1, q22.2) else none
      else
        if (M2.1 55 0 198) = 0 then
          (f_X11_no (8 : Int32) M2).bind fun q20 =>
          if isB q20.1 = true then some (q20.1, q20.2) else none
        else
          f_X11_mean_78 x1 x2 x3 FU (0 : Int32) M2
set_option maxRecDepth 20000 in
set_option maxHeartbeats 2000000 in
theorem b_X11_mean_145 {E : wEnv} {Y : YT} (C : Cx E Y cX11_mean 8 RX11 90) {q : (Int32 × Mem)} (R : Rx E Y (some .boolean) (some (.int q.1)) q.2) {x1 : Int32} {x2 : Int32} {x3 : Int32} {l4 : Int64} {x6 : Int32} {k173 : Mem → Option (Int32 × Mem)} (hk173 : ∀ {M : Mem} , k173 M = some q → G E Y 8 M 173 [(0, .ref (ad E 50 0)), (1, .int x1), (2, .int x2), (3, .int x3), (4, .long l4), (6, .int x6)] []) (n : Nat) : ∀ {x7 : Int32} {M : Mem} (_ : f_X11_mean_145 k173 x1 x2 x3 l4 x6 n x7 M = some q), G E Y 8 M 145 [(0, .ref (ad E 50 0)), (1, .int x1), (2, .int x2), (3, .int x3), (4, .long l4), (6, .int x6), (7, .int x7)] [] := by
  induction n with
  | zero =>
    intro x7 M h
    cases (show none = some q from h)
  | succ n ih =>
    intro x7 M h
    rw [f_X11_mean_145] at h
    refine g_iload C dX11_mean_145 rfl ?_
    refine g_sipush (v := (198 : Int32)) C dX11_mean_147 (by decide) ?_
    refine g_icmp_ge (tgt := 173) C dX11_mean_150 (by decide) h (fun h => ?_) (fun h => ?_)
    · exact g_sub (hk173 h) ⟨rfl, rfl, rfl, rfl, rfl, rfl, trivial⟩
    · refine g_aload_n C dX11_mean_153 rfl rfl ?_
      refine get_X11_35 C dX11_mean_154 (by decide) ?_
      refine g_iload C dX11_mean_157 rfl ?_
      refine g_aload_n C dX11_mean_159 rfl rfl ?_
      refine get_X11_68 C dX11_mean_160 (by decide) ?_
      refine g_iload C dX11_mean_163 rfl ?_
      obtain ⟨hb13, h⟩ := of_ite h
      refine ld_64 (j := _) C dX11_mean_165 (by decide) hb13 rfl ?_
      obtain ⟨hb14, h⟩ := of_ite h
      refine st_55 (j := _) C dX11_mean_166 (by decide) hb14 rfl ?_
      refine g_iinc (w := (1 : Int32)) C dX11_mean_167 rfl (by decide) rfl ?_
      refine g_goto (tgt := 145) C dX11_mean_170 (by decide) ?_
      exact g_sub (ih h) ⟨rfl, rfl, rfl, rfl, rfl, rfl, rfl, trivial⟩
set_option maxRecDepth 20000 in
set_option maxHeartbeats 2000000 in
theorem b_X11_mean_112 {E : wEnv} {Y : YT} (C : Cx E Y cX11_mean 8 RX11 90) {q : (Int32 × Mem)} (R : Rx E Y (some .boolean) (some (.int q.1)) q.2) {x1 : Int32} {x2 : Int32} {x3 : Int32} (n : Nat) : ∀ {l4 : Int64} {x6 : Int32} {M : Mem} (_ : f_X11_mean_112 x1 x2 x3 n l4 x6 M = some q), G E Y 8 M 112 [(0, .ref (ad E 50 0)), (1, .int x1), (2, .int x2), (3, .int x3), (4, .long l4), (6, .int x6)] [] := by
  induction n with
  | zero =>
    intro l4 x6 M h
    cases (show none = some q from h)
  | succ n ih =>
    intro l4 x6 M h
    rw [f_X11_mean_112] at h
    refine g_iload C dX11_mean_112 rfl ?_
    refine g_iload_n C dX11_mean_114 rfl rfl ?_
    refine g_icmp_ge (tgt := 179) C dX11_mean_115 (by decide) h (fun h => ?_) (fun h => ?_)
    · refine g_aload_n C dX11_mean_179 rfl rfl ?_
      refine g_lload C dX11_mean_180 rfl ?_
      refine g_iload_n C dX11_mean_182 rfl rfl ?_
      refine g_i2l C dX11_mean_183 ?_
      obtain ⟨q8, hr8, h⟩ := Option.bind_eq_some_iff.mp h
      refine call_X11_444 C dX11_mean_184 (by decide) (c_X11_fraction E hr8) (by decide) rfl ?_
      obtain ⟨hz9, h⟩ := of_ite h
      exact g_zret C R dX11_mean_187 (fst_of h) (isB_of hz9) (snd_of h)
    · refine g_aload_n C dX11_mean_118 rfl rfl ?_
      refine g_iload_n C dX11_mean_119 rfl rfl ?_
      refine g_iload C dX11_mean_120 rfl ?_
      refine g_iadd C dX11_mean_122 ?_
      obtain ⟨M10, hr10, h⟩ := Option.bind_eq_some_iff.mp h
      refine call_X11_520 C dX11_mean_123 (by decide) (c_X11_runs E hr10) (by decide) rfl ?_
      refine g_lload C dX11_mean_126 rfl ?_
      refine g_aload_n C dX11_mean_128 rfl rfl ?_
      refine get_X11_35 C dX11_mean_129 (by decide) ?_
      refine g_sipush (v := (194 : Int32)) C dX11_mean_132 (by decide) ?_
      refine g_iload_n C dX11_mean_135 rfl rfl ?_
      refine g_iadd C dX11_mean_136 ?_
      obtain ⟨hb11, h⟩ := of_ite h
      refine ld_55 (j := _) C dX11_mean_137 (by decide) hb11 rfl ?_
      refine g_i2l C dX11_mean_138 ?_
      refine g_ladd C dX11_mean_139 ?_
      refine g_lstore C dX11_mean_140 rfl ?_
      refine g_iconst (v := (0 : Int32)) C dX11_mean_142 (by decide) ?_
      refine g_istore C dX11_mean_143 rfl ?_
      refine g_sub (b_X11_mean_145 C R ?_ _ h) ⟨rfl, rfl, rfl, rfl, rfl, rfl, rfl, trivial⟩
      · clear h
        intro M_16 h
        refine g_iinc (w := (1 : Int32)) C dX11_mean_173 rfl (by decide) rfl ?_
        refine g_goto (tgt := 112) C dX11_mean_176 (by decide) ?_
        exact g_sub (ih h) ⟨rfl, rfl, rfl, rfl, rfl, rfl, trivial⟩
set_option maxRecDepth 20000 in
set_option maxHeartbeats 2000000 in
theorem b_X11_mean_78 {E : wEnv} {Y : YT} (C : Cx E Y cX11_mean 8 RX11 90) {q : (Int32 × Mem)} (R : Rx E Y (some .boolean) (some (.int q.1)) q.2) {x1 : Int32} {x2 : Int32} {x3 : Int32} (n : Nat) : ∀ {x4 : Int32} {M : Mem} (_ : f_X11_mean_78 x1 x2 x3 n x4 M = some q), G E Y 8 M 78 [(0, .ref (ad E 50 0)), (1, .int x1), (2, .int x2), (3, .int x3), (4, .int x4)] [] := by
  induction n with
  | zero =>
    intro x4 M h
    cases (show none = some q from h)
  | succ n ih =>
    intro x4 M h
    rw [f_X11_mean_78] at h
    refine g_iload C dX11_mean_78 rfl ?_
    refine g_sipush (v := (198 : Int32)) C dX11_mean_80 (by decide) ?_
    refine g_icmp_ge (tgt := 106) C dX11_mean_83 (by decide) h (fun h => ?_) (fun h => ?_)
    · refine g_lconst (v := (0 : Int64)) C dX11_mean_106 (by decide) ?_
      refine g_lstore C dX11_mean_107 rfl ?_
      refine g_iconst (v := (0 : Int32)) C dX11_mean_109 (by decide) ?_
      refine g_istore C dX11_mean_110 rfl ?_
      exact g_sub (b_X11_mean_112 C R _ h) ⟨rfl, rfl, rfl, rfl, rfl, rfl, trivial⟩
    · refine g_aload_n C dX11_mean_86 rfl rfl ?_
      refine get_X11_68 C dX11_mean_87 (by decide) ?_
      refine g_iload C dX11_mean_90 rfl ?_
      refine g_aload_n C dX11_mean_92 rfl rfl ?_
      refine get_X11_35 C dX11_mean_93 (by decide) ?_
      refine g_iload C dX11_mean_96 rfl ?_
      obtain ⟨hb17, h⟩ := of_ite h
      refine ld_55 (j := _) C dX11_mean_98 (by decide) hb17 rfl ?_
      obtain ⟨hb18, h⟩ := of_ite h
      refine st_64 (j := _) C dX11_mean_99 (by decide) hb18 rfl ?_
      refine g_iinc (w := (1 : Int32)) C dX11_mean_100 rfl (by decide) rfl ?_
      refine g_goto (tgt := 78) C dX11_mean_103 (by decide) ?_
      exact g_sub (ih h) ⟨rfl, rfl, rfl, rfl, rfl, trivial⟩
set_option maxRecDepth 20000 in
set_option maxHeartbeats 2000000 in
theorem c_X11_mean (E : wEnv) {x1 : Int32} {x2 : Int32} {x3 : Int32} {M : Mem} {q : (Int32 × Mem)} (h : f_X11_mean x1 x2 x3 M = some q) : Mt E yX11_mean cX11_mean 8 (some .boolean) 90 [.ref (ad E 50 0), .int x1, .int x2, .int x3] M (some (.int q.1)) q.2 := by
  unfold f_X11_mean at h
  refine mt_intro (own := RX11) (lv0 := [(0, .ref (ad E 50 0)), (1, .int x1), (2, .int x2), (3, .int x3)]) (by decide) rfl rfl rfl (fun Y C R => ?_)
  refine g_aload_n C dX11_mean_0 rfl rfl ?_
  refine g_iconst (v := (0 : Int32)) C dX11_mean_1 (by decide) ?_
  refine put_X11_71 C dX11_mean_2 (by decide) ?_
  refine g_aload_n C dX11_mean_5 rfl rfl ?_
  refine g_iconst (v := (0 : Int32)) C dX11_mean_6 (by decide) ?_
  refine put_X11_74 C dX11_mean_7 (by decide) ?_
  refine g_aload_n C dX11_mean_10 rfl rfl ?_
  refine g_iload_n C dX11_mean_11 rfl rfl ?_
  obtain ⟨r3, hr3, h⟩ := Option.bind_eq_some_iff.mp h
  refine call_X11_352 C dX11_mean_12 (by decide) (c_X11_isCropAt E hr3) (by decide) rfl ?_
  refine g_if_ne (tgt := 24) C dX11_mean_15 (by decide) h (fun h => ?_) (fun h => ?_)
  · refine g_iload_n C dX11_mean_24 rfl rfl ?_
    refine g_i2l C dX11_mean_25 ?_
    refine g_lconst (v := (1 : Int64)) C dX11_mean_26 (by decide) ?_
    refine g_ldc2 C dX11_mean_27 qc_X11_165 ?_
    obtain ⟨r4, hr4, h⟩ := Option.bind_eq_some_iff.mp h
    refine call_X11_106 C dX11_mean_30 (c_X11_isIn E hr4) (by decide) rfl ?_
    refine g_if_eq (tgt := 51) C dX11_mean_33 (by decide) h (fun h => ?_) (fun h => ?_)
    · refine g_aload_n C dX11_mean_51 rfl rfl ?_
      refine g_iconst (v := (5 : Int32)) C dX11_mean_52 (by decide) ?_
      obtain ⟨q5, hr5, h⟩ := Option.bind_eq_some_iff.mp h
      refine call_X11_86 C dX11_mean_53 (by decide) (c_X11_no E hr5) (by decide) rfl ?_
      obtain ⟨hz6, h⟩ := of_ite h
      exact g_zret C R dX11_mean_56 (fst_of h) (isB_of hz6) (snd_of h)
    · refine g_iload_n C dX11_mean_36 rfl rfl ?_
      refine g_i2l C dX11_mean_37 ?_
      refine g_lconst (v := (0 : Int64)) C dX11_mean_38 (by decide) ?_
      refine g_sipush (v := (10000 : Int32)) C dX11_mean_39 (by decide) ?_
      refine g_iload_n C dX11_mean_42 rfl rfl ?_
      refine g_isub C dX11_mean_43 ?_
      refine g_i2l C dX11_mean_44 ?_
      obtain ⟨r7, hr7, h⟩ := Option.bind_eq_some_iff.mp h
      refine call_X11_106 C dX11_mean_45 (c_X11_isIn E hr7) (by decide) rfl ?_
      refine g_if_ne (tgt := 57) C dX11_mean_48 (by decide) h (fun h => ?_) (fun h => ?_)
      · refine g_aload_n C dX11_mean_57 rfl rfl ?_
        refine get_X11_35 C dX11_mean_58 (by decide) ?_
        refine g_sipush (v := (198 : Int32)) C dX11_mean_61 (by decide) ?_
        refine ld_55 (j := 198) C dX11_mean_64 (by decide) (by decide) rfl ?_
        refine g_if_ne (tgt := 75) C dX11_mean_65 (by decide) h (fun h => ?_) (fun h => ?_)
        · refine g_iconst (v := (0 : Int32)) C dX11_mean_75 (by decide) ?_
          refine g_istore C dX11_mean_76 rfl ?_
          exact g_sub (b_X11_mean_78 C R _ h) ⟨rfl, rfl, rfl, rfl, rfl, trivial⟩
        · refine g_aload_n C dX11_mean_68 rfl rfl ?_
          refine g_bipush (v := (8 : Int32)) C dX11_mean_69 (by decide) ?_
          obtain ⟨q20, hr20, h⟩ := Option.bind_eq_some_iff.mp h
          refine call_X11_86 C dX11_mean_71 (by decide) (c_X11_no E hr20) (by decide) rfl ?_
          obtain ⟨hz21, h⟩ := of_ite h
          exact g_zret C R dX11_mean_74 (fst_of h) (isB_of hz21) (snd_of h)
      · refine g_aload_n C dX11_mean_51 rfl rfl ?_
        refine g_iconst (v := (5 : Int32)) C dX11_mean_52 (by decide) ?_
        obtain ⟨q22, hr22, h⟩ := Option.bind_eq_some_iff.mp h
        refine call_X11_86 C dX11_mean_53 (by decide) (c_X11_no E hr22) (by decide) rfl ?_
        obtain ⟨hz23, h⟩ := of_ite h
        exact g_zret C R dX11_mean_56 (fst_of h) (isB_of hz23) (snd_of h)
  · refine g_aload_n C dX11_mean_18 rfl rfl ?_
    refine g_iconst (v := (2 : Int32)) C dX11_mean_19 (by decide) ?_
    obtain ⟨q24, hr24, h⟩ := Option.bind_eq_some_iff.mp h
    refine call_X11_86 C dX11_mean_20 (by decide) (c_X11_no E hr24) (by decide) rfl ?_
    obtain ⟨hz25, h⟩ := of_ite h
    exact g_zret C R dX11_mean_23 (fst_of h) (isB_of hz25) (snd_of h)
noncomputable def f_X11_mark (M : Mem) : Option (Int32 × Mem) :=
  let M1 := sR M 50 0 (upd (M.1 50 0) 1 (0 : Int32))
  let M2 := sR M1 50 0 (upd (M1.1 50 0) 0 (0 : Int32))
  if (M2.1 50 0 23) = (3 : Int32) then
    (f_X11_refuse (7 : Int32) M2).bind fun q5 =>
    some (q5.1, q5.2)
  else
    let M3 := sR M2 50 0 (upd (M2.1 50 0) 23 ((M2.1 50 0 23) + (1 : Int32)))
    (f_X11_copy (0 : Int32) (M3.1 50 0 23) M3).bind fun M4 =>
    some ((M4.1 50 0 23), M4)
set_option maxRecDepth 20000 in
set_option maxHeartbeats 2000000 in
theorem c_X11_mark (E : wEnv) {M : Mem} {q : (Int32 × Mem)} (h : f_X11_mark M = some q) : Mt E yX11_mark cX11_mark 1 (some .int) 1 [.ref (ad E 50 0)] M (some (.int q.1)) q.2 := by
  unfold f_X11_mark at h
  refine mt_intro (own := RX11) (lv0 := [(0, .ref (ad E 50 0))]) (by decide) rfl rfl rfl (fun Y C R => ?_)
  refine g_aload_n C dX11_mark_0 rfl rfl ?_
  refine g_iconst (v := (0 : Int32)) C dX11_mark_1 (by decide) ?_
  refine put_X11_71 C dX11_mark_2 (by decide) ?_
  refine g_aload_n C dX11_mark_5 rfl rfl ?_
  refine g_iconst (v := (0 : Int32)) C dX11_mark_6 (by decide) ?_
  refine put_X11_74 C dX11_mark_7 (by decide) ?_
  refine g_aload_n C dX11_mark_10 rfl rfl ?_
  refine get_X11_528 C dX11_mark_11 (by decide) ?_
  refine g_iconst (v := (3 : Int32)) C dX11_mark_14 (by decide) ?_
  refine g_icmp_ne (tgt := 25) C dX11_mark_15 (by decide) h (fun h => ?_) (fun h => ?_)
  · refine g_aload_n C dX11_mark_25 rfl rfl ?_
    refine g_dup C dX11_mark_26 rfl ?_
    refine get_X11_528 C dX11_mark_27 (by decide) ?_
    refine g_iconst (v := (1 : Int32)) C dX11_mark_30 (by decide) ?_
    refine g_iadd C dX11_mark_31 ?_
    refine put_X11_528 C dX11_mark_32 (by decide) ?_
    refine g_aload_n C dX11_mark_35 rfl rfl ?_
    refine g_iconst (v := (0 : Int32)) C dX11_mark_36 (by decide) ?_
    refine g_aload_n C dX11_mark_37 rfl rfl ?_
    refine get_X11_528 C dX11_mark_38 (by decide) ?_
    obtain ⟨M4, hr4, h⟩ := Option.bind_eq_some_iff.mp h
    refine call_X11_320 C dX11_mark_41 (by decide) (c_X11_copy E hr4) (by decide) rfl ?_
    refine g_aload_n C dX11_mark_44 rfl rfl ?_
    refine get_X11_528 C dX11_mark_45 (by decide) ?_
    exact g_iret C R dX11_mark_48 (fst_of h) (snd_of h)
  · refine g_aload_n C dX11_mark_18 rfl rfl ?_
    refine g_bipush (v := (7 : Int32)) C dX11_mark_19 (by decide) ?_
    obtain ⟨q5, hr5, h⟩ := Option.bind_eq_some_iff.mp h
    refine call_X11_340 C dX11_mark_21 (by decide) (c_X11_refuse E hr5) (by decide) rfl ?_
    exact g_iret C R dX11_mark_24 (fst_of h) (snd_of h)
noncomputable def f_X11_back (M : Mem) : Option (Int32 × Mem) :=
  let M1 := sR M 50 0 (upd (M.1 50 0) 1 (0 : Int32))
  let M2 := sR M1 50 0 (upd (M1.1 50 0) 0 (0 : Int32))
  if (M2.1 50 0 23) = 0 then
    (f_X11_refuse (8 : Int32) M2).bind fun q5 =>
    some (q5.1, q5.2)
  else
    (f_X11_copy (M2.1 50 0 23) (0 : Int32) M2).bind fun M3 =>
    let M4 := sR M3 50 0 (upd (M3.1 50 0) 23 ((M3.1 50 0 23) - (1 : Int32)))
    some ((M4.1 50 0 23), M4)
set_option maxRecDepth 20000 in
set_option maxHeartbeats 2000000 in
theorem c_X11_back (E : wEnv) {M : Mem} {q : (Int32 × Mem)} (h : f_X11_back M = some q) : Mt E yX11_back cX11_back 1 (some .int) 1 [.ref (ad E 50 0)] M (some (.int q.1)) q.2 := by
  unfold f_X11_back at h
  refine mt_intro (own := RX11) (lv0 := [(0, .ref (ad E 50 0))]) (by decide) rfl rfl rfl (fun Y C R => ?_)
  refine g_aload_n C dX11_back_0 rfl rfl ?_
  refine g_iconst (v := (0 : Int32)) C dX11_back_1 (by decide) ?_
  refine put_X11_71 C dX11_back_2 (by decide) ?_
  refine g_aload_n C dX11_back_5 rfl rfl ?_
  refine g_iconst (v := (0 : Int32)) C dX11_back_6 (by decide) ?_
  refine put_X11_74 C dX11_back_7 (by decide) ?_
  refine g_aload_n C dX11_back_10 rfl rfl ?_
  refine get_X11_528 C dX11_back_11 (by decide) ?_
  refine g_if_ne (tgt := 24) C dX11_back_14 (by decide) h (fun h => ?_) (fun h => ?_)
  · refine g_aload_n C dX11_back_24 rfl rfl ?_
    refine g_aload_n C dX11_back_25 rfl rfl ?_
    refine get_X11_528 C dX11_back_26 (by decide) ?_
    refine g_iconst (v := (0 : Int32)) C dX11_back_29 (by decide) ?_
    obtain ⟨M3, hr3, h⟩ := Option.bind_eq_some_iff.mp h
    refine call_X11_320 C dX11_back_30 (by decide) (c_X11_copy E hr3) (by decide) rfl ?_
    refine g_aload_n C dX11_back_33 rfl rfl ?_
    refine g_dup C dX11_back_34 rfl ?_
    refine get_X11_528 C dX11_back_35 (by decide) ?_
    refine g_iconst (v := (1 : Int32)) C dX11_back_38 (by decide) ?_
    refine g_isub C dX11_back_39 ?_
    refine put_X11_528 C dX11_back_40 (by decide) ?_
    refine g_aload_n C dX11_back_43 rfl rfl ?_
    refine get_X11_528 C dX11_back_44 (by decide) ?_
    exact g_iret C R dX11_back_47 (fst_of h) (snd_of h)
  · refine g_aload_n C dX11_back_17 rfl rfl ?_
    refine g_bipush (v := (8 : Int32)) C dX11_back_18 (by decide) ?_
    obtain ⟨q5, hr5, h⟩ := Option.bind_eq_some_iff.mp h
    refine call_X11_340 C dX11_back_20 (by decide) (c_X11_refuse E hr5) (by decide) rfl ?_
    exact g_iret C R dX11_back_23 (fst_of h) (snd_of h)
