/-! ===== printed: the constructors, at each place where one runs ===== -/
abbrev z_X6 : List Value := [.null, .null, .null]
theorem zd_X6 : ∀ j, j < 3 → defaultValue (tyX6 j) = vp_V z_X6 j := by decide +kernel
abbrev z_X9 : List Value := [.null, .null, .null]
theorem zd_X9 : ∀ j, j < 3 → defaultValue (tyX9 j) = vp_V z_X9 j := by decide +kernel
abbrev z_X1 : List Value := [.null, .null, .null, .null, .null, .null, .null, .null, .null, .null, .null, .int 0, .int 0]
theorem zd_X1 : ∀ j, j < 13 → defaultValue (tyX1 j) = vp_V z_X1 j := by decide +kernel
abbrev z_X3 : List Value := [.null, .null, .int 0, .int 0, .int 0, .int 0, .int 0, .int 0]
theorem zd_X3 : ∀ j, j < 8 → defaultValue (tyX3 j) = vp_V z_X3 j := by decide +kernel
abbrev z_X7 : List Value := [.null, .null, .null, .null, .null, .null, .int 0, .int 0, .int 0]
theorem zd_X7 : ∀ j, j < 9 → defaultValue (tyX7 j) = vp_V z_X7 j := by decide +kernel
abbrev z_X5 : List Value := [.null, .null, .int 0, .int 0, .int 0, .int 0, .int 0, .int 0, .long 0, .int 0, .int 0, .int 0]
theorem zd_X5 : ∀ j, j < 12 → defaultValue (tyX5 j) = vp_V z_X5 j := by decide +kernel
abbrev z_X2 : List Value := [.int 0]
theorem zd_X2 : ∀ j, j < 1 → defaultValue (tyX2 j) = vp_V z_X2 j := by decide +kernel
abbrev z_X8 : List Value := [.null, .int 0]
theorem zd_X8 : ∀ j, j < 2 → defaultValue (tyX8 j) = vp_V z_X8 j := by decide +kernel
abbrev z_X0 : List Value := [.null, .null, .null, .null, .null, .null, .null, .int 0, .int 0, .int 0, .int 0]
theorem zd_X0 : ∀ j, j < 11 → defaultValue (tyX0 j) = vp_V z_X0 j := by decide +kernel
abbrev z_X4 : List Value := [.null, .int 0, .int 0, .int 0, .int 0, .int 0, .int 0, .int 0]
theorem zd_X4 : ∀ j, j < 8 → defaultValue (tyX4 j) = vp_V z_X4 j := by decide +kernel
abbrev z_X10 : List Value := [.null, .null, .null, .null, .null, .null, .null, .null, .null, .null, .null, .null, .int 0, .int 0, .int 0, .int 0, .int 0, .long 0, .long 0]
theorem zd_X10 : ∀ j, j < 19 → defaultValue (tyX10 j) = vp_V z_X10 j := by decide +kernel
abbrev z_X11 : List Value := [.int 0, .int 0, .long 0, .long 0, .null, .null, .null, .null, .int 0, .int 0, .int 0, .int 0, .int 0, .int 0, .int 0, .int 0, .int 0, .int 0, .int 0, .long 0, .null, .null, .null, .int 0, .int 0, .int 0, .null, .null, .null, .null, .int 0, .int 0, .int 0, .int 0, .null, .null, .null, .int 0, .int 0, .int 0, .int 0, .int 0, .int 0, .int 0, .int 0, .int 0]
theorem zd_X11 : ∀ j, j < 46 → defaultValue (tyX11 j) = vp_V z_X11 j := by decide +kernel
set_option maxRecDepth 20000 in
set_option maxHeartbeats 1000000 in
theorem mk_1 {E : wEnv} : ∀ D : Dw, D 1 = .inr (6, z_X6) → Mb E yX6_init cX6_init 1 0 7 252 1 D 2 (dF E 1 D) 9 := by
  intro D hD
  refine mb_intro (own := RX6) (by decide) rfl rfl (by decide) (fun Y C hin R => ?_)
  refine gd_start (k := 1) hD ?_
  refine gb_aload_n C dX6_init_0 rfl rfl ?_
  refine gb_objInit C dX6_init_1 qO_X6 qO_inst qO_code rfl ?_
  refine gb_aload_n C dX6_init_4 rfl rfl ?_
  refine gb_iconst (v := nI 4) C dX6_init_5 (by decide) ?_
  refine gb_bipush (v := nI 60) C dX6_init_6 (by decide) ?_
  refine gd_cx (X' := setX nX 2 (.inl (E.2.1 5, 4, .inr (.inr (.inr (.inr (fun j => if j < 4 then some (E.2.2 + 2 + 1 + j) else none))))))) (fun j hj => if_neg (by omega)) ?_
  refine gb_mna C dX6_init_8 qL_X6_9 rfl (by decide) (by decide) (DXb_set (by decide)) (fun j hj => ?_) ?_
  · match j, hj with
    | 0, _ => rfl
    | 1, _ => rfl
    | 2, _ => rfl
    | 3, _ => rfl
  refine gd_putL (CN := RX6) (T := TX6) (N := 3) (f := 0) (ty0 := tyX6) (fs' := [.ref (E.2.2 + 2), .null, .null]) C hin dX6_init_12 rfl rfl rfl lay_X6 tyX6_ok nmX6 qf_X6_11 rfl rfl rfl rfl rfl ?_
  refine gb_aload_n C dX6_init_15 rfl rfl ?_
  refine gb_iconst (v := nI 4) C dX6_init_16 (by decide) ?_
  refine gd_cx (X' := setX _ 7 (.inl (E.2.1 0, (4, .inl (fun _ => 0))))) (fun j hj => if_neg (by omega)) ?_
  refine gd_newa (ty := .int) (t := 0) (N := 4) (a0 := (4, .inl (fun _ => 0))) C rfl (Or.inl rfl) dX6_init_17 qA_int rfl (fun _ => rfl) rfl rfl rfl rfl rfl rfl (Or.inr setX_at) ?_
  refine gb_dup C dX6_init_19 rfl ?_
  refine gb_iconst (v := nI 0) C dX6_init_20 (by decide) ?_
  refine gb_iconst (v := -1) C dX6_init_21 (by decide) ?_
  refine gd_iast C dX6_init_22 rfl rfl (vp_in_nI (by decide) (by decide)) ?_
  refine gb_dup C dX6_init_23 rfl ?_
  refine gb_iconst (v := nI 1) C dX6_init_24 (by decide) ?_
  refine gb_iconst (v := -1) C dX6_init_25 (by decide) ?_
  refine gd_iast C dX6_init_26 rfl rfl (vp_in_nI (by decide) (by decide)) ?_
  refine gb_dup C dX6_init_27 rfl ?_
  refine gb_iconst (v := nI 2) C dX6_init_28 (by decide) ?_
  refine gb_iconst (v := -1) C dX6_init_29 (by decide) ?_
  refine gd_iast C dX6_init_30 rfl rfl (vp_in_nI (by decide) (by decide)) ?_
  refine gb_dup C dX6_init_31 rfl ?_
  refine gb_iconst (v := nI 3) C dX6_init_32 (by decide) ?_
  refine gb_iconst (v := -1) C dX6_init_33 (by decide) ?_
  refine gd_iast C dX6_init_34 rfl rfl (vp_in_nI (by decide) (by decide)) ?_
  refine gd_putL (CN := RX6) (T := TX6) (N := 3) (f := 1) (ty0 := tyX6) (fs' := [.ref (E.2.2 + 2), .ref (E.2.2 + 7), .null]) C hin dX6_init_35 rfl rfl rfl lay_X6 tyX6_ok nmX6 qf_X6_16 rfl rfl rfl rfl rfl ?_
  refine gb_aload_n C dX6_init_38 rfl rfl ?_
  refine gb_iconst (v := nI 4) C dX6_init_39 (by decide) ?_
  refine gd_newa (ty := .int) (t := 0) (N := 4) (a0 := (4, .inl (fun _ => 0))) C rfl (Or.inl rfl) dX6_init_40 qA_int rfl (fun _ => rfl) rfl rfl rfl rfl rfl rfl (Or.inl ⟨rfl, rfl⟩) ?_
  refine gd_putL (CN := RX6) (T := TX6) (N := 3) (f := 2) (ty0 := tyX6) (fs' := [.ref (E.2.2 + 2), .ref (E.2.2 + 7), .ref (E.2.2 + 8)]) C hin dX6_init_42 rfl rfl rfl lay_X6 tyX6_ok nmX6 qf_X6_20 rfl rfl rfl rfl rfl ?_
  refine gd_drop (q := 7) rfl rfl (fun _ h => at_cgi (fun j _ => rfl) h) ?_
  refine gd_drop (q := 2) rfl rfl (fun _ h => at_cgq (fun j hj => by match j, hj with | 0, _ => rfl | 1, _ => rfl | 2, _ => rfl | 3, _ => rfl) h) ?_
  exact gd_ret C R dX6_init_45 rfl rfl (fun _ => rfl)
set_option maxRecDepth 20000 in
set_option maxHeartbeats 1000000 in
theorem mk_10 {E : wEnv} : ∀ D : Dw, D 10 = .inr (1, z_X1) → Mb E yX1_init cX1_init 1 0 11 226 10 D 11 (dF E 10 D) 22 := by
  intro D hD
  refine mb_intro (own := RX1) (by decide) rfl rfl (by decide) (fun Y C hin R => ?_)
  refine gd_start (k := 10) hD ?_
  refine gb_aload_n C dX1_init_0 rfl rfl ?_
  refine gb_objInit C dX1_init_1 qO_X1 qO_inst qO_code rfl ?_
  refine gb_aload_n C dX1_init_4 rfl rfl ?_
  refine gb_iconst (v := nI 4) C dX1_init_5 (by decide) ?_
  refine gd_newa (ty := .int) (t := 0) (N := 4) (a0 := (4, .inl (fun _ => 0))) C rfl (Or.inl rfl) dX1_init_6 qA_int rfl (fun _ => rfl) rfl rfl rfl rfl rfl rfl (Or.inl ⟨rfl, rfl⟩) ?_
  refine gd_putL (CN := RX1) (T := TX1) (N := 13) (f := 0) (ty0 := tyX1) (fs' := [.ref (E.2.2 + 11), .null, .null, .null, .null, .null, .null, .null, .null, .null, .null, .int 0, .int 0]) C hin dX1_init_8 rfl rfl rfl lay_X1 tyX1_ok nmX1 qf_X1_9 rfl rfl rfl rfl rfl ?_
  refine gb_aload_n C dX1_init_11 rfl rfl ?_
  refine gb_bipush (v := nI 40) C dX1_init_12 (by decide) ?_
  refine gd_newa (ty := .long) (t := 2) (N := 40) (a0 := (40, .inr (.inl (fun _ => 0)))) C rfl (Or.inr (Or.inr rfl)) dX1_init_14 qA_long rfl (fun _ => rfl) rfl rfl rfl rfl rfl rfl (Or.inl ⟨rfl, rfl⟩) ?_
  refine gd_putL (CN := RX1) (T := TX1) (N := 13) (f := 1) (ty0 := tyX1) (fs' := [.ref (E.2.2 + 11), .ref (E.2.2 + 12), .null, .null, .null, .null, .null, .null, .null, .null, .null, .int 0, .int 0]) C hin dX1_init_16 rfl rfl rfl lay_X1 tyX1_ok nmX1 qf_X1_15 rfl rfl rfl rfl rfl ?_
  refine gb_aload_n C dX1_init_19 rfl rfl ?_
  refine gb_bipush (v := nI 10) C dX1_init_20 (by decide) ?_
  refine gd_newa (ty := .int) (t := 0) (N := 10) (a0 := (10, .inl (fun _ => 0))) C rfl (Or.inl rfl) dX1_init_22 qA_int rfl (fun _ => rfl) rfl rfl rfl rfl rfl rfl (Or.inl ⟨rfl, rfl⟩) ?_
  refine gd_putL (CN := RX1) (T := TX1) (N := 13) (f := 2) (ty0 := tyX1) (fs' := [.ref (E.2.2 + 11), .ref (E.2.2 + 12), .ref (E.2.2 + 13), .null, .null, .null, .null, .null, .null, .null, .null, .int 0, .int 0]) C hin dX1_init_24 rfl rfl rfl lay_X1 tyX1_ok nmX1 qf_X1_19 rfl rfl rfl rfl rfl ?_
  refine gb_aload_n C dX1_init_27 rfl rfl ?_
  refine gb_bipush (v := nI 10) C dX1_init_28 (by decide) ?_
  refine gd_newa (ty := .int) (t := 0) (N := 10) (a0 := (10, .inl (fun _ => 0))) C rfl (Or.inl rfl) dX1_init_30 qA_int rfl (fun _ => rfl) rfl rfl rfl rfl rfl rfl (Or.inl ⟨rfl, rfl⟩) ?_
  refine gd_putL (CN := RX1) (T := TX1) (N := 13) (f := 3) (ty0 := tyX1) (fs' := [.ref (E.2.2 + 11), .ref (E.2.2 + 12), .ref (E.2.2 + 13), .ref (E.2.2 + 14), .null, .null, .null, .null, .null, .null, .null, .int 0, .int 0]) C hin dX1_init_32 rfl rfl rfl lay_X1 tyX1_ok nmX1 qf_X1_22 rfl rfl rfl rfl rfl ?_
  refine gb_aload_n C dX1_init_35 rfl rfl ?_
  refine gb_bipush (v := nI 10) C dX1_init_36 (by decide) ?_
  refine gd_newa (ty := .int) (t := 0) (N := 10) (a0 := (10, .inl (fun _ => 0))) C rfl (Or.inl rfl) dX1_init_38 qA_int rfl (fun _ => rfl) rfl rfl rfl rfl rfl rfl (Or.inl ⟨rfl, rfl⟩) ?_
  refine gd_putL (CN := RX1) (T := TX1) (N := 13) (f := 4) (ty0 := tyX1) (fs' := [.ref (E.2.2 + 11), .ref (E.2.2 + 12), .ref (E.2.2 + 13), .ref (E.2.2 + 14), .ref (E.2.2 + 15), .null, .null, .null, .null, .null, .null, .int 0, .int 0]) C hin dX1_init_40 rfl rfl rfl lay_X1 tyX1_ok nmX1 qf_X1_25 rfl rfl rfl rfl rfl ?_
  refine gb_aload_n C dX1_init_43 rfl rfl ?_
  refine gb_bipush (v := nI 100) C dX1_init_44 (by decide) ?_
  refine gd_newa (ty := .int) (t := 0) (N := 100) (a0 := (100, .inl (fun _ => 0))) C rfl (Or.inl rfl) dX1_init_46 qA_int rfl (fun _ => rfl) rfl rfl rfl rfl rfl rfl (Or.inl ⟨rfl, rfl⟩) ?_
  refine gd_putL (CN := RX1) (T := TX1) (N := 13) (f := 5) (ty0 := tyX1) (fs' := [.ref (E.2.2 + 11), .ref (E.2.2 + 12), .ref (E.2.2 + 13), .ref (E.2.2 + 14), .ref (E.2.2 + 15), .ref (E.2.2 + 16), .null, .null, .null, .null, .null, .int 0, .int 0]) C hin dX1_init_48 rfl rfl rfl lay_X1 tyX1_ok nmX1 qf_X1_28 rfl rfl rfl rfl rfl ?_
  refine gb_aload_n C dX1_init_51 rfl rfl ?_
  refine gb_bipush (v := nI 10) C dX1_init_52 (by decide) ?_
  refine gd_newa (ty := .int) (t := 0) (N := 10) (a0 := (10, .inl (fun _ => 0))) C rfl (Or.inl rfl) dX1_init_54 qA_int rfl (fun _ => rfl) rfl rfl rfl rfl rfl rfl (Or.inl ⟨rfl, rfl⟩) ?_
  refine gd_putL (CN := RX1) (T := TX1) (N := 13) (f := 6) (ty0 := tyX1) (fs' := [.ref (E.2.2 + 11), .ref (E.2.2 + 12), .ref (E.2.2 + 13), .ref (E.2.2 + 14), .ref (E.2.2 + 15), .ref (E.2.2 + 16), .ref (E.2.2 + 17), .null, .null, .null, .null, .int 0, .int 0]) C hin dX1_init_56 rfl rfl rfl lay_X1 tyX1_ok nmX1 qf_X1_31 rfl rfl rfl rfl rfl ?_
  refine gb_aload_n C dX1_init_59 rfl rfl ?_
  refine gb_bipush (v := nI 6) C dX1_init_60 (by decide) ?_
  refine gd_newa (ty := .int) (t := 0) (N := 6) (a0 := (6, .inl (fun _ => 0))) C rfl (Or.inl rfl) dX1_init_62 qA_int rfl (fun _ => rfl) rfl rfl rfl rfl rfl rfl (Or.inl ⟨rfl, rfl⟩) ?_
  refine gd_putL (CN := RX1) (T := TX1) (N := 13) (f := 7) (ty0 := tyX1) (fs' := [.ref (E.2.2 + 11), .ref (E.2.2 + 12), .ref (E.2.2 + 13), .ref (E.2.2 + 14), .ref (E.2.2 + 15), .ref (E.2.2 + 16), .ref (E.2.2 + 17), .ref (E.2.2 + 18), .null, .null, .null, .int 0, .int 0]) C hin dX1_init_64 rfl rfl rfl lay_X1 tyX1_ok nmX1 qf_X1_34 rfl rfl rfl rfl rfl ?_
  refine gb_aload_n C dX1_init_67 rfl rfl ?_
  refine gb_bipush (v := nI 6) C dX1_init_68 (by decide) ?_
  refine gd_newa (ty := .int) (t := 0) (N := 6) (a0 := (6, .inl (fun _ => 0))) C rfl (Or.inl rfl) dX1_init_70 qA_int rfl (fun _ => rfl) rfl rfl rfl rfl rfl rfl (Or.inl ⟨rfl, rfl⟩) ?_
  refine gd_putL (CN := RX1) (T := TX1) (N := 13) (f := 8) (ty0 := tyX1) (fs' := [.ref (E.2.2 + 11), .ref (E.2.2 + 12), .ref (E.2.2 + 13), .ref (E.2.2 + 14), .ref (E.2.2 + 15), .ref (E.2.2 + 16), .ref (E.2.2 + 17), .ref (E.2.2 + 18), .ref (E.2.2 + 19), .null, .null, .int 0, .int 0]) C hin dX1_init_72 rfl rfl rfl lay_X1 tyX1_ok nmX1 qf_X1_37 rfl rfl rfl rfl rfl ?_
  refine gb_aload_n C dX1_init_75 rfl rfl ?_
  refine gb_bipush (v := nI 6) C dX1_init_76 (by decide) ?_
  refine gd_newa (ty := .int) (t := 0) (N := 6) (a0 := (6, .inl (fun _ => 0))) C rfl (Or.inl rfl) dX1_init_78 qA_int rfl (fun _ => rfl) rfl rfl rfl rfl rfl rfl (Or.inl ⟨rfl, rfl⟩) ?_
  refine gd_putL (CN := RX1) (T := TX1) (N := 13) (f := 9) (ty0 := tyX1) (fs' := [.ref (E.2.2 + 11), .ref (E.2.2 + 12), .ref (E.2.2 + 13), .ref (E.2.2 + 14), .ref (E.2.2 + 15), .ref (E.2.2 + 16), .ref (E.2.2 + 17), .ref (E.2.2 + 18), .ref (E.2.2 + 19), .ref (E.2.2 + 20), .null, .int 0, .int 0]) C hin dX1_init_80 rfl rfl rfl lay_X1 tyX1_ok nmX1 qf_X1_40 rfl rfl rfl rfl rfl ?_
  refine gb_aload_n C dX1_init_83 rfl rfl ?_
  refine gb_bipush (v := nI 24) C dX1_init_84 (by decide) ?_
  refine gd_newa (ty := .int) (t := 0) (N := 24) (a0 := (24, .inl (fun _ => 0))) C rfl (Or.inl rfl) dX1_init_86 qA_int rfl (fun _ => rfl) rfl rfl rfl rfl rfl rfl (Or.inl ⟨rfl, rfl⟩) ?_
  refine gd_putL (CN := RX1) (T := TX1) (N := 13) (f := 10) (ty0 := tyX1) (fs' := [.ref (E.2.2 + 11), .ref (E.2.2 + 12), .ref (E.2.2 + 13), .ref (E.2.2 + 14), .ref (E.2.2 + 15), .ref (E.2.2 + 16), .ref (E.2.2 + 17), .ref (E.2.2 + 18), .ref (E.2.2 + 19), .ref (E.2.2 + 20), .ref (E.2.2 + 21), .int 0, .int 0]) C hin dX1_init_88 rfl rfl rfl lay_X1 tyX1_ok nmX1 qf_X1_43 rfl rfl rfl rfl rfl ?_
  refine gb_aload_n C dX1_init_91 rfl rfl ?_
  refine gb_iconst (v := nI 0) C dX1_init_92 (by decide) ?_
  refine gd_putL (CN := RX1) (T := TX1) (N := 13) (f := 11) (ty0 := tyX1) (fs' := [.ref (E.2.2 + 11), .ref (E.2.2 + 12), .ref (E.2.2 + 13), .ref (E.2.2 + 14), .ref (E.2.2 + 15), .ref (E.2.2 + 16), .ref (E.2.2 + 17), .ref (E.2.2 + 18), .ref (E.2.2 + 19), .ref (E.2.2 + 20), .ref (E.2.2 + 21), .int (nI 0), .int 0]) C hin dX1_init_93 rfl rfl rfl lay_X1 tyX1_ok nmX1 qf_X1_46 rfl rfl rfl rfl rfl ?_
  refine gb_aload_n C dX1_init_96 rfl rfl ?_
  refine gb_iconst (v := nI 0) C dX1_init_97 (by decide) ?_
  refine gd_putL (CN := RX1) (T := TX1) (N := 13) (f := 12) (ty0 := tyX1) (fs' := [.ref (E.2.2 + 11), .ref (E.2.2 + 12), .ref (E.2.2 + 13), .ref (E.2.2 + 14), .ref (E.2.2 + 15), .ref (E.2.2 + 16), .ref (E.2.2 + 17), .ref (E.2.2 + 18), .ref (E.2.2 + 19), .ref (E.2.2 + 20), .ref (E.2.2 + 21), .int (nI 0), .int (nI 0)]) C hin dX1_init_98 rfl rfl rfl lay_X1 tyX1_ok nmX1 qf_X1_50 rfl rfl rfl rfl rfl ?_
  exact gd_ret C R dX1_init_101 rfl rfl (fun _ => rfl)
set_option maxRecDepth 20000 in
set_option maxHeartbeats 1000000 in
theorem mk_33 {E : wEnv} : ∀ D : Dw, D 33 = .inr (1, z_X1) → Mb E yX1_init cX1_init 1 0 11 226 33 D 34 (dF E 33 D) 45 := by
  intro D hD
  refine mb_intro (own := RX1) (by decide) rfl rfl (by decide) (fun Y C hin R => ?_)
  refine gd_start (k := 33) hD ?_
  refine gb_aload_n C dX1_init_0 rfl rfl ?_
  refine gb_objInit C dX1_init_1 qO_X1 qO_inst qO_code rfl ?_
  refine gb_aload_n C dX1_init_4 rfl rfl ?_
  refine gb_iconst (v := nI 4) C dX1_init_5 (by decide) ?_
  refine gd_newa (ty := .int) (t := 0) (N := 4) (a0 := (4, .inl (fun _ => 0))) C rfl (Or.inl rfl) dX1_init_6 qA_int rfl (fun _ => rfl) rfl rfl rfl rfl rfl rfl (Or.inl ⟨rfl, rfl⟩) ?_
  refine gd_putL (CN := RX1) (T := TX1) (N := 13) (f := 0) (ty0 := tyX1) (fs' := [.ref (E.2.2 + 34), .null, .null, .null, .null, .null, .null, .null, .null, .null, .null, .int 0, .int 0]) C hin dX1_init_8 rfl rfl rfl lay_X1 tyX1_ok nmX1 qf_X1_9 rfl rfl rfl rfl rfl ?_
  refine gb_aload_n C dX1_init_11 rfl rfl ?_
  refine gb_bipush (v := nI 40) C dX1_init_12 (by decide) ?_
  refine gd_newa (ty := .long) (t := 2) (N := 40) (a0 := (40, .inr (.inl (fun _ => 0)))) C rfl (Or.inr (Or.inr rfl)) dX1_init_14 qA_long rfl (fun _ => rfl) rfl rfl rfl rfl rfl rfl (Or.inl ⟨rfl, rfl⟩) ?_
  refine gd_putL (CN := RX1) (T := TX1) (N := 13) (f := 1) (ty0 := tyX1) (fs' := [.ref (E.2.2 + 34), .ref (E.2.2 + 35), .null, .null, .null, .null, .null, .null, .null, .null, .null, .int 0, .int 0]) C hin dX1_init_16 rfl rfl rfl lay_X1 tyX1_ok nmX1 qf_X1_15 rfl rfl rfl rfl rfl ?_
  refine gb_aload_n C dX1_init_19 rfl rfl ?_
  refine gb_bipush (v := nI 10) C dX1_init_20 (by decide) ?_
  refine gd_newa (ty := .int) (t := 0) (N := 10) (a0 := (10, .inl (fun _ => 0))) C rfl (Or.inl rfl) dX1_init_22 qA_int rfl (fun _ => rfl) rfl rfl rfl rfl rfl rfl (Or.inl ⟨rfl, rfl⟩) ?_
  refine gd_putL (CN := RX1) (T := TX1) (N := 13) (f := 2) (ty0 := tyX1) (fs' := [.ref (E.2.2 + 34), .ref (E.2.2 + 35), .ref (E.2.2 + 36), .null, .null, .null, .null, .null, .null, .null, .null, .int 0, .int 0]) C hin dX1_init_24 rfl rfl rfl lay_X1 tyX1_ok nmX1 qf_X1_19 rfl rfl rfl rfl rfl ?_
  refine gb_aload_n C dX1_init_27 rfl rfl ?_
  refine gb_bipush (v := nI 10) C dX1_init_28 (by decide) ?_
  refine gd_newa (ty := .int) (t := 0) (N := 10) (a0 := (10, .inl (fun _ => 0))) C rfl (Or.inl rfl) dX1_init_30 qA_int rfl (fun _ => rfl) rfl rfl rfl rfl rfl rfl (Or.inl ⟨rfl, rfl⟩) ?_
  refine gd_putL (CN := RX1) (T := TX1) (N := 13) (f := 3) (ty0 := tyX1) (fs' := [.ref (E.2.2 + 34), .ref (E.2.2 + 35), .ref (E.2.2 + 36), .ref (E.2.2 + 37), .null, .null, .null, .null, .null, .null, .null, .int 0, .int 0]) C hin dX1_init_32 rfl rfl rfl lay_X1 tyX1_ok nmX1 qf_X1_22 rfl rfl rfl rfl rfl ?_
  refine gb_aload_n C dX1_init_35 rfl rfl ?_
  refine gb_bipush (v := nI 10) C dX1_init_36 (by decide) ?_
  refine gd_newa (ty := .int) (t := 0) (N := 10) (a0 := (10, .inl (fun _ => 0))) C rfl (Or.inl rfl) dX1_init_38 qA_int rfl (fun _ => rfl) rfl rfl rfl rfl rfl rfl (Or.inl ⟨rfl, rfl⟩) ?_
  refine gd_putL (CN := RX1) (T := TX1) (N := 13) (f := 4) (ty0 := tyX1) (fs' := [.ref (E.2.2 + 34), .ref (E.2.2 + 35), .ref (E.2.2 + 36), .ref (E.2.2 + 37), .ref (E.2.2 + 38), .null, .null, .null, .null, .null, .null, .int 0, .int 0]) C hin dX1_init_40 rfl rfl rfl lay_X1 tyX1_ok nmX1 qf_X1_25 rfl rfl rfl rfl rfl ?_
  refine gb_aload_n C dX1_init_43 rfl rfl ?_
  refine gb_bipush (v := nI 100) C dX1_init_44 (by decide) ?_
  refine gd_newa (ty := .int) (t := 0) (N := 100) (a0 := (100, .inl (fun _ => 0))) C rfl (Or.inl rfl) dX1_init_46 qA_int rfl (fun _ => rfl) rfl rfl rfl rfl rfl rfl (Or.inl ⟨rfl, rfl⟩) ?_
  refine gd_putL (CN := RX1) (T := TX1) (N := 13) (f := 5) (ty0 := tyX1) (fs' := [.ref (E.2.2 + 34), .ref (E.2.2 + 35), .ref (E.2.2 + 36), .ref (E.2.2 + 37), .ref (E.2.2 + 38), .ref (E.2.2 + 39), .null, .null, .null, .null, .null, .int 0, .int 0]) C hin dX1_init_48 rfl rfl rfl lay_X1 tyX1_ok nmX1 qf_X1_28 rfl rfl rfl rfl rfl ?_
  refine gb_aload_n C dX1_init_51 rfl rfl ?_
  refine gb_bipush (v := nI 10) C dX1_init_52 (by decide) ?_
  refine gd_newa (ty := .int) (t := 0) (N := 10) (a0 := (10, .inl (fun _ => 0))) C rfl (Or.inl rfl) dX1_init_54 qA_int rfl (fun _ => rfl) rfl rfl rfl rfl rfl rfl (Or.inl ⟨rfl, rfl⟩) ?_
  refine gd_putL (CN := RX1) (T := TX1) (N := 13) (f := 6) (ty0 := tyX1) (fs' := [.ref (E.2.2 + 34), .ref (E.2.2 + 35), .ref (E.2.2 + 36), .ref (E.2.2 + 37), .ref (E.2.2 + 38), .ref (E.2.2 + 39), .ref (E.2.2 + 40), .null, .null, .null, .null, .int 0, .int 0]) C hin dX1_init_56 rfl rfl rfl lay_X1 tyX1_ok nmX1 qf_X1_31 rfl rfl rfl rfl rfl ?_
  refine gb_aload_n C dX1_init_59 rfl rfl ?_
  refine gb_bipush (v := nI 6) C dX1_init_60 (by decide) ?_
  refine gd_newa (ty := .int) (t := 0) (N := 6) (a0 := (6, .inl (fun _ => 0))) C rfl (Or.inl rfl) dX1_init_62 qA_int rfl (fun _ => rfl) rfl rfl rfl rfl rfl rfl (Or.inl ⟨rfl, rfl⟩) ?_
  refine gd_putL (CN := RX1) (T := TX1) (N := 13) (f := 7) (ty0 := tyX1) (fs' := [.ref (E.2.2 + 34), .ref (E.2.2 + 35), .ref (E.2.2 + 36), .ref (E.2.2 + 37), .ref (E.2.2 + 38), .ref (E.2.2 + 39), .ref (E.2.2 + 40), .ref (E.2.2 + 41), .null, .null, .null, .int 0, .int 0]) C hin dX1_init_64 rfl rfl rfl lay_X1 tyX1_ok nmX1 qf_X1_34 rfl rfl rfl rfl rfl ?_
  refine gb_aload_n C dX1_init_67 rfl rfl ?_
  refine gb_bipush (v := nI 6) C dX1_init_68 (by decide) ?_
  refine gd_newa (ty := .int) (t := 0) (N := 6) (a0 := (6, .inl (fun _ => 0))) C rfl (Or.inl rfl) dX1_init_70 qA_int rfl (fun _ => rfl) rfl rfl rfl rfl rfl rfl (Or.inl ⟨rfl, rfl⟩) ?_
  refine gd_putL (CN := RX1) (T := TX1) (N := 13) (f := 8) (ty0 := tyX1) (fs' := [.ref (E.2.2 + 34), .ref (E.2.2 + 35), .ref (E.2.2 + 36), .ref (E.2.2 + 37), .ref (E.2.2 + 38), .ref (E.2.2 + 39), .ref (E.2.2 + 40), .ref (E.2.2 + 41), .ref (E.2.2 + 42), .null, .null, .int 0, .int 0]) C hin dX1_init_72 rfl rfl rfl lay_X1 tyX1_ok nmX1 qf_X1_37 rfl rfl rfl rfl rfl ?_
  refine gb_aload_n C dX1_init_75 rfl rfl ?_
  refine gb_bipush (v := nI 6) C dX1_init_76 (by decide) ?_
  refine gd_newa (ty := .int) (t := 0) (N := 6) (a0 := (6, .inl (fun _ => 0))) C rfl (Or.inl rfl) dX1_init_78 qA_int rfl (fun _ => rfl) rfl rfl rfl rfl rfl rfl (Or.inl ⟨rfl, rfl⟩) ?_
  refine gd_putL (CN := RX1) (T := TX1) (N := 13) (f := 9) (ty0 := tyX1) (fs' := [.ref (E.2.2 + 34), .ref (E.2.2 + 35), .ref (E.2.2 + 36), .ref (E.2.2 + 37), .ref (E.2.2 + 38), .ref (E.2.2 + 39), .ref (E.2.2 + 40), .ref (E.2.2 + 41), .ref (E.2.2 + 42), .ref (E.2.2 + 43), .null, .int 0, .int 0]) C hin dX1_init_80 rfl rfl rfl lay_X1 tyX1_ok nmX1 qf_X1_40 rfl rfl rfl rfl rfl ?_
  refine gb_aload_n C dX1_init_83 rfl rfl ?_
  refine gb_bipush (v := nI 24) C dX1_init_84 (by decide) ?_
  refine gd_newa (ty := .int) (t := 0) (N := 24) (a0 := (24, .inl (fun _ => 0))) C rfl (Or.inl rfl) dX1_init_86 qA_int rfl (fun _ => rfl) rfl rfl rfl rfl rfl rfl (Or.inl ⟨rfl, rfl⟩) ?_
  refine gd_putL (CN := RX1) (T := TX1) (N := 13) (f := 10) (ty0 := tyX1) (fs' := [.ref (E.2.2 + 34), .ref (E.2.2 + 35), .ref (E.2.2 + 36), .ref (E.2.2 + 37), .ref (E.2.2 + 38), .ref (E.2.2 + 39), .ref (E.2.2 + 40), .ref (E.2.2 + 41), .ref (E.2.2 + 42), .ref (E.2.2 + 43), .ref (E.2.2 + 44), .int 0, .int 0]) C hin dX1_init_88 rfl rfl rfl lay_X1 tyX1_ok nmX1 qf_X1_43 rfl rfl rfl rfl rfl ?_
  refine gb_aload_n C dX1_init_91 rfl rfl ?_
  refine gb_iconst (v := nI 0) C dX1_init_92 (by decide) ?_
  refine gd_putL (CN := RX1) (T := TX1) (N := 13) (f := 11) (ty0 := tyX1) (fs' := [.ref (E.2.2 + 34), .ref (E.2.2 + 35), .ref (E.2.2 + 36), .ref (E.2.2 + 37), .ref (E.2.2 + 38), .ref (E.2.2 + 39), .ref (E.2.2 + 40), .ref (E.2.2 + 41), .ref (E.2.2 + 42), .ref (E.2.2 + 43), .ref (E.2.2 + 44), .int (nI 0), .int 0]) C hin dX1_init_93 rfl rfl rfl lay_X1 tyX1_ok nmX1 qf_X1_46 rfl rfl rfl rfl rfl ?_
  refine gb_aload_n C dX1_init_96 rfl rfl ?_
  refine gb_iconst (v := nI 0) C dX1_init_97 (by decide) ?_
  refine gd_putL (CN := RX1) (T := TX1) (N := 13) (f := 12) (ty0 := tyX1) (fs' := [.ref (E.2.2 + 34), .ref (E.2.2 + 35), .ref (E.2.2 + 36), .ref (E.2.2 + 37), .ref (E.2.2 + 38), .ref (E.2.2 + 39), .ref (E.2.2 + 40), .ref (E.2.2 + 41), .ref (E.2.2 + 42), .ref (E.2.2 + 43), .ref (E.2.2 + 44), .int (nI 0), .int (nI 0)]) C hin dX1_init_98 rfl rfl rfl lay_X1 tyX1_ok nmX1 qf_X1_50 rfl rfl rfl rfl rfl ?_
  exact gd_ret C R dX1_init_101 rfl rfl (fun _ => rfl)
set_option maxRecDepth 20000 in
set_option maxHeartbeats 1000000 in
theorem mk_89 {E : wEnv} : ∀ D : Dw, D 89 = .inr (1, z_X1) → Mb E yX1_init cX1_init 1 0 11 226 89 D 90 (dF E 89 D) 101 := by
  intro D hD
  refine mb_intro (own := RX1) (by decide) rfl rfl (by decide) (fun Y C hin R => ?_)
  refine gd_start (k := 89) hD ?_
  refine gb_aload_n C dX1_init_0 rfl rfl ?_
  refine gb_objInit C dX1_init_1 qO_X1 qO_inst qO_code rfl ?_
  refine gb_aload_n C dX1_init_4 rfl rfl ?_
  refine gb_iconst (v := nI 4) C dX1_init_5 (by decide) ?_
  refine gd_newa (ty := .int) (t := 0) (N := 4) (a0 := (4, .inl (fun _ => 0))) C rfl (Or.inl rfl) dX1_init_6 qA_int rfl (fun _ => rfl) rfl rfl rfl rfl rfl rfl (Or.inl ⟨rfl, rfl⟩) ?_
  refine gd_putL (CN := RX1) (T := TX1) (N := 13) (f := 0) (ty0 := tyX1) (fs' := [.ref (E.2.2 + 90), .null, .null, .null, .null, .null, .null, .null, .null, .null, .null, .int 0, .int 0]) C hin dX1_init_8 rfl rfl rfl lay_X1 tyX1_ok nmX1 qf_X1_9 rfl rfl rfl rfl rfl ?_
  refine gb_aload_n C dX1_init_11 rfl rfl ?_
  refine gb_bipush (v := nI 40) C dX1_init_12 (by decide) ?_
  refine gd_newa (ty := .long) (t := 2) (N := 40) (a0 := (40, .inr (.inl (fun _ => 0)))) C rfl (Or.inr (Or.inr rfl)) dX1_init_14 qA_long rfl (fun _ => rfl) rfl rfl rfl rfl rfl rfl (Or.inl ⟨rfl, rfl⟩) ?_
  refine gd_putL (CN := RX1) (T := TX1) (N := 13) (f := 1) (ty0 := tyX1) (fs' := [.ref (E.2.2 + 90), .ref (E.2.2 + 91), .null, .null, .null, .null, .null, .null, .null, .null, .null, .int 0, .int 0]) C hin dX1_init_16 rfl rfl rfl lay_X1 tyX1_ok nmX1 qf_X1_15 rfl rfl rfl rfl rfl ?_
  refine gb_aload_n C dX1_init_19 rfl rfl ?_
  refine gb_bipush (v := nI 10) C dX1_init_20 (by decide) ?_
  refine gd_newa (ty := .int) (t := 0) (N := 10) (a0 := (10, .inl (fun _ => 0))) C rfl (Or.inl rfl) dX1_init_22 qA_int rfl (fun _ => rfl) rfl rfl rfl rfl rfl rfl (Or.inl ⟨rfl, rfl⟩) ?_
  refine gd_putL (CN := RX1) (T := TX1) (N := 13) (f := 2) (ty0 := tyX1) (fs' := [.ref (E.2.2 + 90), .ref (E.2.2 + 91), .ref (E.2.2 + 92), .null, .null, .null, .null, .null, .null, .null, .null, .int 0, .int 0]) C hin dX1_init_24 rfl rfl rfl lay_X1 tyX1_ok nmX1 qf_X1_19 rfl rfl rfl rfl rfl ?_
  refine gb_aload_n C dX1_init_27 rfl rfl ?_
  refine gb_bipush (v := nI 10) C dX1_init_28 (by decide) ?_
  refine gd_newa (ty := .int) (t := 0) (N := 10) (a0 := (10, .inl (fun _ => 0))) C rfl (Or.inl rfl) dX1_init_30 qA_int rfl (fun _ => rfl) rfl rfl rfl rfl rfl rfl (Or.inl ⟨rfl, rfl⟩) ?_
  refine gd_putL (CN := RX1) (T := TX1) (N := 13) (f := 3) (ty0 := tyX1) (fs' := [.ref (E.2.2 + 90), .ref (E.2.2 + 91), .ref (E.2.2 + 92), .ref (E.2.2 + 93), .null, .null, .null, .null, .null, .null, .null, .int 0, .int 0]) C hin dX1_init_32 rfl rfl rfl lay_X1 tyX1_ok nmX1 qf_X1_22 rfl rfl rfl rfl rfl ?_
  refine gb_aload_n C dX1_init_35 rfl rfl ?_
  refine gb_bipush (v := nI 10) C dX1_init_36 (by decide) ?_
  refine gd_newa (ty := .int) (t := 0) (N := 10) (a0 := (10, .inl (fun _ => 0))) C rfl (Or.inl rfl) dX1_init_38 qA_int rfl (fun _ => rfl) rfl rfl rfl rfl rfl rfl (Or.inl ⟨rfl, rfl⟩) ?_
  refine gd_putL (CN := RX1) (T := TX1) (N := 13) (f := 4) (ty0 := tyX1) (fs' := [.ref (E.2.2 + 90), .ref (E.2.2 + 91), .ref (E.2.2 + 92), .ref (E.2.2 + 93), .ref (E.2.2 + 94), .null, .null, .null, .null, .null, .null, .int 0, .int 0]) C hin dX1_init_40 rfl rfl rfl lay_X1 tyX1_ok nmX1 qf_X1_25 rfl rfl rfl rfl rfl ?_
  refine gb_aload_n C dX1_init_43 rfl rfl ?_
  refine gb_bipush (v := nI 100) C dX1_init_44 (by decide) ?_
  refine gd_newa (ty := .int) (t := 0) (N := 100) (a0 := (100, .inl (fun _ => 0))) C rfl (Or.inl rfl) dX1_init_46 qA_int rfl (fun _ => rfl) rfl rfl rfl rfl rfl rfl (Or.inl ⟨rfl, rfl⟩) ?_
  refine gd_putL (CN := RX1) (T := TX1) (N := 13) (f := 5) (ty0 := tyX1) (fs' := [.ref (E.2.2 + 90), .ref (E.2.2 + 91), .ref (E.2.2 + 92), .ref (E.2.2 + 93), .ref (E.2.2 + 94), .ref (E.2.2 + 95), .null, .null, .null, .null, .null, .int 0, .int 0]) C hin dX1_init_48 rfl rfl rfl lay_X1 tyX1_ok nmX1 qf_X1_28 rfl rfl rfl rfl rfl ?_
  refine gb_aload_n C dX1_init_51 rfl rfl ?_
  refine gb_bipush (v := nI 10) C dX1_init_52 (by decide) ?_
  refine gd_newa (ty := .int) (t := 0) (N := 10) (a0 := (10, .inl (fun _ => 0))) C rfl (Or.inl rfl) dX1_init_54 qA_int rfl (fun _ => rfl) rfl rfl rfl rfl rfl rfl (Or.inl ⟨rfl, rfl⟩) ?_
  refine gd_putL (CN := RX1) (T := TX1) (N := 13) (f := 6) (ty0 := tyX1) (fs' := [.ref (E.2.2 + 90), .ref (E.2.2 + 91), .ref (E.2.2 + 92), .ref (E.2.2 + 93), .ref (E.2.2 + 94), .ref (E.2.2 + 95), .ref (E.2.2 + 96), .null, .null, .null, .null, .int 0, .int 0]) C hin dX1_init_56 rfl rfl rfl lay_X1 tyX1_ok nmX1 qf_X1_31 rfl rfl rfl rfl rfl ?_
  refine gb_aload_n C dX1_init_59 rfl rfl ?_
  refine gb_bipush (v := nI 6) C dX1_init_60 (by decide) ?_
  refine gd_newa (ty := .int) (t := 0) (N := 6) (a0 := (6, .inl (fun _ => 0))) C rfl (Or.inl rfl) dX1_init_62 qA_int rfl (fun _ => rfl) rfl rfl rfl rfl rfl rfl (Or.inl ⟨rfl, rfl⟩) ?_
  refine gd_putL (CN := RX1) (T := TX1) (N := 13) (f := 7) (ty0 := tyX1) (fs' := [.ref (E.2.2 + 90), .ref (E.2.2 + 91), .ref (E.2.2 + 92), .ref (E.2.2 + 93), .ref (E.2.2 + 94), .ref (E.2.2 + 95), .ref (E.2.2 + 96), .ref (E.2.2 + 97), .null, .null, .null, .int 0, .int 0]) C hin dX1_init_64 rfl rfl rfl lay_X1 tyX1_ok nmX1 qf_X1_34 rfl rfl rfl rfl rfl ?_
  refine gb_aload_n C dX1_init_67 rfl rfl ?_
  refine gb_bipush (v := nI 6) C dX1_init_68 (by decide) ?_
  refine gd_newa (ty := .int) (t := 0) (N := 6) (a0 := (6, .inl (fun _ => 0))) C rfl (Or.inl rfl) dX1_init_70 qA_int rfl (fun _ => rfl) rfl rfl rfl rfl rfl rfl (Or.inl ⟨rfl, rfl⟩) ?_
  refine gd_putL (CN := RX1) (T := TX1) (N := 13) (f := 8) (ty0 := tyX1) (fs' := [.ref (E.2.2 + 90), .ref (E.2.2 + 91), .ref (E.2.2 + 92), .ref (E.2.2 + 93), .ref (E.2.2 + 94), .ref (E.2.2 + 95), .ref (E.2.2 + 96), .ref (E.2.2 + 97), .ref (E.2.2 + 98), .null, .null, .int 0, .int 0]) C hin dX1_init_72 rfl rfl rfl lay_X1 tyX1_ok nmX1 qf_X1_37 rfl rfl rfl rfl rfl ?_
  refine gb_aload_n C dX1_init_75 rfl rfl ?_
  refine gb_bipush (v := nI 6) C dX1_init_76 (by decide) ?_
  refine gd_newa (ty := .int) (t := 0) (N := 6) (a0 := (6, .inl (fun _ => 0))) C rfl (Or.inl rfl) dX1_init_78 qA_int rfl (fun _ => rfl) rfl rfl rfl rfl rfl rfl (Or.inl ⟨rfl, rfl⟩) ?_
  refine gd_putL (CN := RX1) (T := TX1) (N := 13) (f := 9) (ty0 := tyX1) (fs' := [.ref (E.2.2 + 90), .ref (E.2.2 + 91), .ref (E.2.2 + 92), .ref (E.2.2 + 93), .ref (E.2.2 + 94), .ref (E.2.2 + 95), .ref (E.2.2 + 96), .ref (E.2.2 + 97), .ref (E.2.2 + 98), .ref (E.2.2 + 99), .null, .int 0, .int 0]) C hin dX1_init_80 rfl rfl rfl lay_X1 tyX1_ok nmX1 qf_X1_40 rfl rfl rfl rfl rfl ?_
  refine gb_aload_n C dX1_init_83 rfl rfl ?_
  refine gb_bipush (v := nI 24) C dX1_init_84 (by decide) ?_
  refine gd_newa (ty := .int) (t := 0) (N := 24) (a0 := (24, .inl (fun _ => 0))) C rfl (Or.inl rfl) dX1_init_86 qA_int rfl (fun _ => rfl) rfl rfl rfl rfl rfl rfl (Or.inl ⟨rfl, rfl⟩) ?_
  refine gd_putL (CN := RX1) (T := TX1) (N := 13) (f := 10) (ty0 := tyX1) (fs' := [.ref (E.2.2 + 90), .ref (E.2.2 + 91), .ref (E.2.2 + 92), .ref (E.2.2 + 93), .ref (E.2.2 + 94), .ref (E.2.2 + 95), .ref (E.2.2 + 96), .ref (E.2.2 + 97), .ref (E.2.2 + 98), .ref (E.2.2 + 99), .ref (E.2.2 + 100), .int 0, .int 0]) C hin dX1_init_88 rfl rfl rfl lay_X1 tyX1_ok nmX1 qf_X1_43 rfl rfl rfl rfl rfl ?_
  refine gb_aload_n C dX1_init_91 rfl rfl ?_
  refine gb_iconst (v := nI 0) C dX1_init_92 (by decide) ?_
  refine gd_putL (CN := RX1) (T := TX1) (N := 13) (f := 11) (ty0 := tyX1) (fs' := [.ref (E.2.2 + 90), .ref (E.2.2 + 91), .ref (E.2.2 + 92), .ref (E.2.2 + 93), .ref (E.2.2 + 94), .ref (E.2.2 + 95), .ref (E.2.2 + 96), .ref (E.2.2 + 97), .ref (E.2.2 + 98), .ref (E.2.2 + 99), .ref (E.2.2 + 100), .int (nI 0), .int 0]) C hin dX1_init_93 rfl rfl rfl lay_X1 tyX1_ok nmX1 qf_X1_46 rfl rfl rfl rfl rfl ?_
  refine gb_aload_n C dX1_init_96 rfl rfl ?_
  refine gb_iconst (v := nI 0) C dX1_init_97 (by decide) ?_
  refine gd_putL (CN := RX1) (T := TX1) (N := 13) (f := 12) (ty0 := tyX1) (fs' := [.ref (E.2.2 + 90), .ref (E.2.2 + 91), .ref (E.2.2 + 92), .ref (E.2.2 + 93), .ref (E.2.2 + 94), .ref (E.2.2 + 95), .ref (E.2.2 + 96), .ref (E.2.2 + 97), .ref (E.2.2 + 98), .ref (E.2.2 + 99), .ref (E.2.2 + 100), .int (nI 0), .int (nI 0)]) C hin dX1_init_98 rfl rfl rfl lay_X1 tyX1_ok nmX1 qf_X1_50 rfl rfl rfl rfl rfl ?_
  exact gd_ret C R dX1_init_101 rfl rfl (fun _ => rfl)
set_option maxRecDepth 20000 in
set_option maxHeartbeats 1000000 in
theorem mk_112 {E : wEnv} : ∀ D : Dw, D 112 = .inr (1, z_X1) → Mb E yX1_init cX1_init 1 0 11 226 112 D 113 (dF E 112 D) 124 := by
  intro D hD
  refine mb_intro (own := RX1) (by decide) rfl rfl (by decide) (fun Y C hin R => ?_)
  refine gd_start (k := 112) hD ?_
  refine gb_aload_n C dX1_init_0 rfl rfl ?_
  refine gb_objInit C dX1_init_1 qO_X1 qO_inst qO_code rfl ?_
  refine gb_aload_n C dX1_init_4 rfl rfl ?_
  refine gb_iconst (v := nI 4) C dX1_init_5 (by decide) ?_
  refine gd_newa (ty := .int) (t := 0) (N := 4) (a0 := (4, .inl (fun _ => 0))) C rfl (Or.inl rfl) dX1_init_6 qA_int rfl (fun _ => rfl) rfl rfl rfl rfl rfl rfl (Or.inl ⟨rfl, rfl⟩) ?_
  refine gd_putL (CN := RX1) (T := TX1) (N := 13) (f := 0) (ty0 := tyX1) (fs' := [.ref (E.2.2 + 113), .null, .null, .null, .null, .null, .null, .null, .null, .null, .null, .int 0, .int 0]) C hin dX1_init_8 rfl rfl rfl lay_X1 tyX1_ok nmX1 qf_X1_9 rfl rfl rfl rfl rfl ?_
  refine gb_aload_n C dX1_init_11 rfl rfl ?_
  refine gb_bipush (v := nI 40) C dX1_init_12 (by decide) ?_
  refine gd_newa (ty := .long) (t := 2) (N := 40) (a0 := (40, .inr (.inl (fun _ => 0)))) C rfl (Or.inr (Or.inr rfl)) dX1_init_14 qA_long rfl (fun _ => rfl) rfl rfl rfl rfl rfl rfl (Or.inl ⟨rfl, rfl⟩) ?_
  refine gd_putL (CN := RX1) (T := TX1) (N := 13) (f := 1) (ty0 := tyX1) (fs' := [.ref (E.2.2 + 113), .ref (E.2.2 + 114), .null, .null, .null, .null, .null, .null, .null, .null, .null, .int 0, .int 0]) C hin dX1_init_16 rfl rfl rfl lay_X1 tyX1_ok nmX1 qf_X1_15 rfl rfl rfl rfl rfl ?_
  refine gb_aload_n C dX1_init_19 rfl rfl ?_
  refine gb_bipush (v := nI 10) C dX1_init_20 (by decide) ?_
  refine gd_newa (ty := .int) (t := 0) (N := 10) (a0 := (10, .inl (fun _ => 0))) C rfl (Or.inl rfl) dX1_init_22 qA_int rfl (fun _ => rfl) rfl rfl rfl rfl rfl rfl (Or.inl ⟨rfl, rfl⟩) ?_
  refine gd_putL (CN := RX1) (T := TX1) (N := 13) (f := 2) (ty0 := tyX1) (fs' := [.ref (E.2.2 + 113), .ref (E.2.2 + 114), .ref (E.2.2 + 115), .null, .null, .null, .null, .null, .null, .null, .null, .int 0, .int 0]) C hin dX1_init_24 rfl rfl rfl lay_X1 tyX1_ok nmX1 qf_X1_19 rfl rfl rfl rfl rfl ?_
  refine gb_aload_n C dX1_init_27 rfl rfl ?_
  refine gb_bipush (v := nI 10) C dX1_init_28 (by decide) ?_
  refine gd_newa (ty := .int) (t := 0) (N := 10) (a0 := (10, .inl (fun _ => 0))) C rfl (Or.inl rfl) dX1_init_30 qA_int rfl (fun _ => rfl) rfl rfl rfl rfl rfl rfl (Or.inl ⟨rfl, rfl⟩) ?_
  refine gd_putL (CN := RX1) (T := TX1) (N := 13) (f := 3) (ty0 := tyX1) (fs' := [.ref (E.2.2 + 113), .ref (E.2.2 + 114), .ref (E.2.2 + 115), .ref (E.2.2 + 116), .null, .null, .null, .null, .null, .null, .null, .int 0, .int 0]) C hin dX1_init_32 rfl rfl rfl lay_X1 tyX1_ok nmX1 qf_X1_22 rfl rfl rfl rfl rfl ?_
  refine gb_aload_n C dX1_init_35 rfl rfl ?_
  refine gb_bipush (v := nI 10) C dX1_init_36 (by decide) ?_
  refine gd_newa (ty := .int) (t := 0) (N := 10) (a0 := (10, .inl (fun _ => 0))) C rfl (Or.inl rfl) dX1_init_38 qA_int rfl (fun _ => rfl) rfl rfl rfl rfl rfl rfl (Or.inl ⟨rfl, rfl⟩) ?_
  refine gd_putL (CN := RX1) (T := TX1) (N := 13) (f := 4) (ty0 := tyX1) (fs' := [.ref (E.2.2 + 113), .ref (E.2.2 + 114), .ref (E.2.2 + 115), .ref (E.2.2 + 116), .ref (E.2.2 + 117), .null, .null, .null, .null, .null, .null, .int 0, .int 0]) C hin dX1_init_40 rfl rfl rfl lay_X1 tyX1_ok nmX1 qf_X1_25 rfl rfl rfl rfl rfl ?_
  refine gb_aload_n C dX1_init_43 rfl rfl ?_
  refine gb_bipush (v := nI 100) C dX1_init_44 (by decide) ?_
  refine gd_newa (ty := .int) (t := 0) (N := 100) (a0 := (100, .inl (fun _ => 0))) C rfl (Or.inl rfl) dX1_init_46 qA_int rfl (fun _ => rfl) rfl rfl rfl rfl rfl rfl (Or.inl ⟨rfl, rfl⟩) ?_
  refine gd_putL (CN := RX1) (T := TX1) (N := 13) (f := 5) (ty0 := tyX1) (fs' := [.ref (E.2.2 + 113), .ref (E.2.2 + 114), .ref (E.2.2 + 115), .ref (E.2.2 + 116), .ref (E.2.2 + 117), .ref (E.2.2 + 118), .null, .null, .null, .null, .null, .int 0, .int 0]) C hin dX1_init_48 rfl rfl rfl lay_X1 tyX1_ok nmX1 qf_X1_28 rfl rfl rfl rfl rfl ?_
  refine gb_aload_n C dX1_init_51 rfl rfl ?_
  refine gb_bipush (v := nI 10) C dX1_init_52 (by decide) ?_
  refine gd_newa (ty := .int) (t := 0) (N := 10) (a0 := (10, .inl (fun _ => 0))) C rfl (Or.inl rfl) dX1_init_54 qA_int rfl (fun _ => rfl) rfl rfl rfl rfl rfl rfl (Or.inl ⟨rfl, rfl⟩) ?_
  refine gd_putL (CN := RX1) (T := TX1) (N := 13) (f := 6) (ty0 := tyX1) (fs' := [.ref (E.2.2 + 113), .ref (E.2.2 + 114), .ref (E.2.2 + 115), .ref (E.2.2 + 116), .ref (E.2.2 + 117), .ref (E.2.2 + 118), .ref (E.2.2 + 119), .null, .null, .null, .null, .int 0, .int 0]) C hin dX1_init_56 rfl rfl rfl lay_X1 tyX1_ok nmX1 qf_X1_31 rfl rfl rfl rfl rfl ?_
  refine gb_aload_n C dX1_init_59 rfl rfl ?_
  refine gb_bipush (v := nI 6) C dX1_init_60 (by decide) ?_
  refine gd_newa (ty := .int) (t := 0) (N := 6) (a0 := (6, .inl (fun _ => 0))) C rfl (Or.inl rfl) dX1_init_62 qA_int rfl (fun _ => rfl) rfl rfl rfl rfl rfl rfl (Or.inl ⟨rfl, rfl⟩) ?_
  refine gd_putL (CN := RX1) (T := TX1) (N := 13) (f := 7) (ty0 := tyX1) (fs' := [.ref (E.2.2 + 113), .ref (E.2.2 + 114), .ref (E.2.2 + 115), .ref (E.2.2 + 116), .ref (E.2.2 + 117), .ref (E.2.2 + 118), .ref (E.2.2 + 119), .ref (E.2.2 + 120), .null, .null, .null, .int 0, .int 0]) C hin dX1_init_64 rfl rfl rfl lay_X1 tyX1_ok nmX1 qf_X1_34 rfl rfl rfl rfl rfl ?_
  refine gb_aload_n C dX1_init_67 rfl rfl ?_
  refine gb_bipush (v := nI 6) C dX1_init_68 (by decide) ?_
  refine gd_newa (ty := .int) (t := 0) (N := 6) (a0 := (6, .inl (fun _ => 0))) C rfl (Or.inl rfl) dX1_init_70 qA_int rfl (fun _ => rfl) rfl rfl rfl rfl rfl rfl (Or.inl ⟨rfl, rfl⟩) ?_
  refine gd_putL (CN := RX1) (T := TX1) (N := 13) (f := 8) (ty0 := tyX1) (fs' := [.ref (E.2.2 + 113), .ref (E.2.2 + 114), .ref (E.2.2 + 115), .ref (E.2.2 + 116), .ref (E.2.2 + 117), .ref (E.2.2 + 118), .ref (E.2.2 + 119), .ref (E.2.2 + 120), .ref (E.2.2 + 121), .null, .null, .int 0, .int 0]) C hin dX1_init_72 rfl rfl rfl lay_X1 tyX1_ok nmX1 qf_X1_37 rfl rfl rfl rfl rfl ?_
  refine gb_aload_n C dX1_init_75 rfl rfl ?_
  refine gb_bipush (v := nI 6) C dX1_init_76 (by decide) ?_
  refine gd_newa (ty := .int) (t := 0) (N := 6) (a0 := (6, .inl (fun _ => 0))) C rfl (Or.inl rfl) dX1_init_78 qA_int rfl (fun _ => rfl) rfl rfl rfl rfl rfl rfl (Or.inl ⟨rfl, rfl⟩) ?_
  refine gd_putL (CN := RX1) (T := TX1) (N := 13) (f := 9) (ty0 := tyX1) (fs' := [.ref (E.2.2 + 113), .ref (E.2.2 + 114), .ref (E.2.2 + 115), .ref (E.2.2 + 116), .ref (E.2.2 + 117), .ref (E.2.2 + 118), .ref (E.2.2 + 119), .ref (E.2.2 + 120), .ref (E.2.2 + 121), .ref (E.2.2 + 122), .null, .int 0, .int 0]) C hin dX1_init_80 rfl rfl rfl lay_X1 tyX1_ok nmX1 qf_X1_40 rfl rfl rfl rfl rfl ?_
  refine gb_aload_n C dX1_init_83 rfl rfl ?_
  refine gb_bipush (v := nI 24) C dX1_init_84 (by decide) ?_
  refine gd_newa (ty := .int) (t := 0) (N := 24) (a0 := (24, .inl (fun _ => 0))) C rfl (Or.inl rfl) dX1_init_86 qA_int rfl (fun _ => rfl) rfl rfl rfl rfl rfl rfl (Or.inl ⟨rfl, rfl⟩) ?_
  refine gd_putL (CN := RX1) (T := TX1) (N := 13) (f := 10) (ty0 := tyX1) (fs' := [.ref (E.2.2 + 113), .ref (E.2.2 + 114), .ref (E.2.2 + 115), .ref (E.2.2 + 116), .ref (E.2.2 + 117), .ref (E.2.2 + 118), .ref (E.2.2 + 119), .ref (E.2.2 + 120), .ref (E.2.2 + 121), .ref (E.2.2 + 122), .ref (E.2.2 + 123), .int 0, .int 0]) C hin dX1_init_88 rfl rfl rfl lay_X1 tyX1_ok nmX1 qf_X1_43 rfl rfl rfl rfl rfl ?_
  refine gb_aload_n C dX1_init_91 rfl rfl ?_
  refine gb_iconst (v := nI 0) C dX1_init_92 (by decide) ?_
  refine gd_putL (CN := RX1) (T := TX1) (N := 13) (f := 11) (ty0 := tyX1) (fs' := [.ref (E.2.2 + 113), .ref (E.2.2 + 114), .ref (E.2.2 + 115), .ref (E.2.2 + 116), .ref (E.2.2 + 117), .ref (E.2.2 + 118), .ref (E.2.2 + 119), .ref (E.2.2 + 120), .ref (E.2.2 + 121), .ref (E.2.2 + 122), .ref (E.2.2 + 123), .int (nI 0), .int 0]) C hin dX1_init_93 rfl rfl rfl lay_X1 tyX1_ok nmX1 qf_X1_46 rfl rfl rfl rfl rfl ?_
  refine gb_aload_n C dX1_init_96 rfl rfl ?_
  refine gb_iconst (v := nI 0) C dX1_init_97 (by decide) ?_
  refine gd_putL (CN := RX1) (T := TX1) (N := 13) (f := 12) (ty0 := tyX1) (fs' := [.ref (E.2.2 + 113), .ref (E.2.2 + 114), .ref (E.2.2 + 115), .ref (E.2.2 + 116), .ref (E.2.2 + 117), .ref (E.2.2 + 118), .ref (E.2.2 + 119), .ref (E.2.2 + 120), .ref (E.2.2 + 121), .ref (E.2.2 + 122), .ref (E.2.2 + 123), .int (nI 0), .int (nI 0)]) C hin dX1_init_98 rfl rfl rfl lay_X1 tyX1_ok nmX1 qf_X1_50 rfl rfl rfl rfl rfl ?_
  exact gd_ret C R dX1_init_101 rfl rfl (fun _ => rfl)
set_option maxRecDepth 20000 in
set_option maxHeartbeats 1000000 in
theorem mk_135 {E : wEnv} : ∀ D : Dw, D 135 = .inr (1, z_X1) → Mb E yX1_init cX1_init 1 0 11 226 135 D 136 (dF E 135 D) 147 := by
  intro D hD
  refine mb_intro (own := RX1) (by decide) rfl rfl (by decide) (fun Y C hin R => ?_)
  refine gd_start (k := 135) hD ?_
  refine gb_aload_n C dX1_init_0 rfl rfl ?_
  refine gb_objInit C dX1_init_1 qO_X1 qO_inst qO_code rfl ?_
  refine gb_aload_n C dX1_init_4 rfl rfl ?_
  refine gb_iconst (v := nI 4) C dX1_init_5 (by decide) ?_
  refine gd_newa (ty := .int) (t := 0) (N := 4) (a0 := (4, .inl (fun _ => 0))) C rfl (Or.inl rfl) dX1_init_6 qA_int rfl (fun _ => rfl) rfl rfl rfl rfl rfl rfl (Or.inl ⟨rfl, rfl⟩) ?_
  refine gd_putL (CN := RX1) (T := TX1) (N := 13) (f := 0) (ty0 := tyX1) (fs' := [.ref (E.2.2 + 136), .null, .null, .null, .null, .null, .null, .null, .null, .null, .null, .int 0, .int 0]) C hin dX1_init_8 rfl rfl rfl lay_X1 tyX1_ok nmX1 qf_X1_9 rfl rfl rfl rfl rfl ?_
  refine gb_aload_n C dX1_init_11 rfl rfl ?_
  refine gb_bipush (v := nI 40) C dX1_init_12 (by decide) ?_
  refine gd_newa (ty := .long) (t := 2) (N := 40) (a0 := (40, .inr (.inl (fun _ => 0)))) C rfl (Or.inr (Or.inr rfl)) dX1_init_14 qA_long rfl (fun _ => rfl) rfl rfl rfl rfl rfl rfl (Or.inl ⟨rfl, rfl⟩) ?_
  refine gd_putL (CN := RX1) (T := TX1) (N := 13) (f := 1) (ty0 := tyX1) (fs' := [.ref (E.2.2 + 136), .ref (E.2.2 + 137), .null, .null, .null, .null, .null, .null, .null, .null, .null, .int 0, .int 0]) C hin dX1_init_16 rfl rfl rfl lay_X1 tyX1_ok nmX1 qf_X1_15 rfl rfl rfl rfl rfl ?_
  refine gb_aload_n C dX1_init_19 rfl rfl ?_
  refine gb_bipush (v := nI 10) C dX1_init_20 (by decide) ?_
  refine gd_newa (ty := .int) (t := 0) (N := 10) (a0 := (10, .inl (fun _ => 0))) C rfl (Or.inl rfl) dX1_init_22 qA_int rfl (fun _ => rfl) rfl rfl rfl rfl rfl rfl (Or.inl ⟨rfl, rfl⟩) ?_
  refine gd_putL (CN := RX1) (T := TX1) (N := 13) (f := 2) (ty0 := tyX1) (fs' := [.ref (E.2.2 + 136), .ref (E.2.2 + 137), .ref (E.2.2 + 138), .null, .null, .null, .null, .null, .null, .null, .null, .int 0, .int 0]) C hin dX1_init_24 rfl rfl rfl lay_X1 tyX1_ok nmX1 qf_X1_19 rfl rfl rfl rfl rfl ?_
  refine gb_aload_n C dX1_init_27 rfl rfl ?_
  refine gb_bipush (v := nI 10) C dX1_init_28 (by decide) ?_
  refine gd_newa (ty := .int) (t := 0) (N := 10) (a0 := (10, .inl (fun _ => 0))) C rfl (Or.inl rfl) dX1_init_30 qA_int rfl (fun _ => rfl) rfl rfl rfl rfl rfl rfl (Or.inl ⟨rfl, rfl⟩) ?_
  refine gd_putL (CN := RX1) (T := TX1) (N := 13) (f := 3) (ty0 := tyX1) (fs' := [.ref (E.2.2 + 136), .ref (E.2.2 + 137), .ref (E.2.2 + 138), .ref (E.2.2 + 139), .null, .null, .null, .null, .null, .null, .null, .int 0, .int 0]) C hin dX1_init_32 rfl rfl rfl lay_X1 tyX1_ok nmX1 qf_X1_22 rfl rfl rfl rfl rfl ?_
  refine gb_aload_n C dX1_init_35 rfl rfl ?_
  refine gb_bipush (v := nI 10) C dX1_init_36 (by decide) ?_
  refine gd_newa (ty := .int) (t := 0) (N := 10) (a0 := (10, .inl (fun _ => 0))) C rfl (Or.inl rfl) dX1_init_38 qA_int rfl (fun _ => rfl) rfl rfl rfl rfl rfl rfl (Or.inl ⟨rfl, rfl⟩) ?_
  refine gd_putL (CN := RX1) (T := TX1) (N := 13) (f := 4) (ty0 := tyX1) (fs' := [.ref (E.2.2 + 136), .ref (E.2.2 + 137), .ref (E.2.2 + 138), .ref (E.2.2 + 139), .ref (E.2.2 + 140), .null, .null, .null, .null, .null, .null, .int 0, .int 0]) C hin dX1_init_40 rfl rfl rfl lay_X1 tyX1_ok nmX1 qf_X1_25 rfl rfl rfl rfl rfl ?_
  refine gb_aload_n C dX1_init_43 rfl rfl ?_
  refine gb_bipush (v := nI 100) C dX1_init_44 (by decide) ?_
  refine gd_newa (ty := .int) (t := 0) (N := 100) (a0 := (100, .inl (fun _ => 0))) C rfl (Or.inl rfl) dX1_init_46 qA_int rfl (fun _ => rfl) rfl rfl rfl rfl rfl rfl (Or.inl ⟨rfl, rfl⟩) ?_
  refine gd_putL (CN := RX1) (T := TX1) (N := 13) (f := 5) (ty0 := tyX1) (fs' := [.ref (E.2.2 + 136), .ref (E.2.2 + 137), .ref (E.2.2 + 138), .ref (E.2.2 + 139), .ref (E.2.2 + 140), .ref (E.2.2 + 141), .null, .null, .null, .null, .null, .int 0, .int 0]) C hin dX1_init_48 rfl rfl rfl lay_X1 tyX1_ok nmX1 qf_X1_28 rfl rfl rfl rfl rfl ?_
  refine gb_aload_n C dX1_init_51 rfl rfl ?_
  refine gb_bipush (v := nI 10) C dX1_init_52 (by decide) ?_
  refine gd_newa (ty := .int) (t := 0) (N := 10) (a0 := (10, .inl (fun _ => 0))) C rfl (Or.inl rfl) dX1_init_54 qA_int rfl (fun _ => rfl) rfl rfl rfl rfl rfl rfl (Or.inl ⟨rfl, rfl⟩) ?_
  refine gd_putL (CN := RX1) (T := TX1) (N := 13) (f := 6) (ty0 := tyX1) (fs' := [.ref (E.2.2 + 136), .ref (E.2.2 + 137), .ref (E.2.2 + 138), .ref (E.2.2 + 139), .ref (E.2.2 + 140), .ref (E.2.2 + 141), .ref (E.2.2 + 142), .null, .null, .null, .null, .int 0, .int 0]) C hin dX1_init_56 rfl rfl rfl lay_X1 tyX1_ok nmX1 qf_X1_31 rfl rfl rfl rfl rfl ?_
  refine gb_aload_n C dX1_init_59 rfl rfl ?_
  refine gb_bipush (v := nI 6) C dX1_init_60 (by decide) ?_
  refine gd_newa (ty := .int) (t := 0) (N := 6) (a0 := (6, .inl (fun _ => 0))) C rfl (Or.inl rfl) dX1_init_62 qA_int rfl (fun _ => rfl) rfl rfl rfl rfl rfl rfl (Or.inl ⟨rfl, rfl⟩) ?_
  refine gd_putL (CN := RX1) (T := TX1) (N := 13) (f := 7) (ty0 := tyX1) (fs' := [.ref (E.2.2 + 136), .ref (E.2.2 + 137), .ref (E.2.2 + 138), .ref (E.2.2 + 139), .ref (E.2.2 + 140), .ref (E.2.2 + 141), .ref (E.2.2 + 142), .ref (E.2.2 + 143), .null, .null, .null, .int 0, .int 0]) C hin dX1_init_64 rfl rfl rfl lay_X1 tyX1_ok nmX1 qf_X1_34 rfl rfl rfl rfl rfl ?_
  refine gb_aload_n C dX1_init_67 rfl rfl ?_
  refine gb_bipush (v := nI 6) C dX1_init_68 (by decide) ?_
  refine gd_newa (ty := .int) (t := 0) (N := 6) (a0 := (6, .inl (fun _ => 0))) C rfl (Or.inl rfl) dX1_init_70 qA_int rfl (fun _ => rfl) rfl rfl rfl rfl rfl rfl (Or.inl ⟨rfl, rfl⟩) ?_
  refine gd_putL (CN := RX1) (T := TX1) (N := 13) (f := 8) (ty0 := tyX1) (fs' := [.ref (E.2.2 + 136), .ref (E.2.2 + 137), .ref (E.2.2 + 138), .ref (E.2.2 + 139), .ref (E.2.2 + 140), .ref (E.2.2 + 141), .ref (E.2.2 + 142), .ref (E.2.2 + 143), .ref (E.2.2 + 144), .null, .null, .int 0, .int 0]) C hin dX1_init_72 rfl rfl rfl lay_X1 tyX1_ok nmX1 qf_X1_37 rfl rfl rfl rfl rfl ?_
  refine gb_aload_n C dX1_init_75 rfl rfl ?_
  refine gb_bipush (v := nI 6) C dX1_init_76 (by decide) ?_
  refine gd_newa (ty := .int) (t := 0) (N := 6) (a0 := (6, .inl (fun _ => 0))) C rfl (Or.inl rfl) dX1_init_78 qA_int rfl (fun _ => rfl) rfl rfl rfl rfl rfl rfl (Or.inl ⟨rfl, rfl⟩) ?_
  refine gd_putL (CN := RX1) (T := TX1) (N := 13) (f := 9) (ty0 := tyX1) (fs' := [.ref (E.2.2 + 136), .ref (E.2.2 + 137), .ref (E.2.2 + 138), .ref (E.2.2 + 139), .ref (E.2.2 + 140), .ref (E.2.2 + 141), .ref (E.2.2 + 142), .ref (E.2.2 + 143), .ref (E.2.2 + 144), .ref (E.2.2 + 145), .null, .int 0, .int 0]) C hin dX1_init_80 rfl rfl rfl lay_X1 tyX1_ok nmX1 qf_X1_40 rfl rfl rfl rfl rfl ?_
  refine gb_aload_n C dX1_init_83 rfl rfl ?_
  refine gb_bipush (v := nI 24) C dX1_init_84 (by decide) ?_
  refine gd_newa (ty := .int) (t := 0) (N := 24) (a0 := (24, .inl (fun _ => 0))) C rfl (Or.inl rfl) dX1_init_86 qA_int rfl (fun _ => rfl) rfl rfl rfl rfl rfl rfl (Or.inl ⟨rfl, rfl⟩) ?_
  refine gd_putL (CN := RX1) (T := TX1) (N := 13) (f := 10) (ty0 := tyX1) (fs' := [.ref (E.2.2 + 136), .ref (E.2.2 + 137), .ref (E.2.2 + 138), .ref (E.2.2 + 139), .ref (E.2.2 + 140), .ref (E.2.2 + 141), .ref (E.2.2 + 142), .ref (E.2.2 + 143), .ref (E.2.2 + 144), .ref (E.2.2 + 145), .ref (E.2.2 + 146), .int 0, .int 0]) C hin dX1_init_88 rfl rfl rfl lay_X1 tyX1_ok nmX1 qf_X1_43 rfl rfl rfl rfl rfl ?_
  refine gb_aload_n C dX1_init_91 rfl rfl ?_
  refine gb_iconst (v := nI 0) C dX1_init_92 (by decide) ?_
  refine gd_putL (CN := RX1) (T := TX1) (N := 13) (f := 11) (ty0 := tyX1) (fs' := [.ref (E.2.2 + 136), .ref (E.2.2 + 137), .ref (E.2.2 + 138), .ref (E.2.2 + 139), .ref (E.2.2 + 140), .ref (E.2.2 + 141), .ref (E.2.2 + 142), .ref (E.2.2 + 143), .ref (E.2.2 + 144), .ref (E.2.2 + 145), .ref (E.2.2 + 146), .int (nI 0), .int 0]) C hin dX1_init_93 rfl rfl rfl lay_X1 tyX1_ok nmX1 qf_X1_46 rfl rfl rfl rfl rfl ?_
  refine gb_aload_n C dX1_init_96 rfl rfl ?_
  refine gb_iconst (v := nI 0) C dX1_init_97 (by decide) ?_
  refine gd_putL (CN := RX1) (T := TX1) (N := 13) (f := 12) (ty0 := tyX1) (fs' := [.ref (E.2.2 + 136), .ref (E.2.2 + 137), .ref (E.2.2 + 138), .ref (E.2.2 + 139), .ref (E.2.2 + 140), .ref (E.2.2 + 141), .ref (E.2.2 + 142), .ref (E.2.2 + 143), .ref (E.2.2 + 144), .ref (E.2.2 + 145), .ref (E.2.2 + 146), .int (nI 0), .int (nI 0)]) C hin dX1_init_98 rfl rfl rfl lay_X1 tyX1_ok nmX1 qf_X1_50 rfl rfl rfl rfl rfl ?_
  exact gd_ret C R dX1_init_101 rfl rfl (fun _ => rfl)
set_option maxRecDepth 20000 in
set_option maxHeartbeats 1000000 in
theorem mk_22 {E : wEnv} : ∀ D : Dw, D 22 = .inr (3, z_X3) → Mb E yX3_init cX3_init 1 0 2 14 22 D 23 (dF E 22 D) 25 := by
  intro D hD
  refine mb_intro (own := RX3) (by decide) rfl rfl (by decide) (fun Y C hin R => ?_)
  refine gd_start (k := 22) hD ?_
  refine gb_aload_n C dX3_init_0 rfl rfl ?_
  refine gb_objInit C dX3_init_1 qO_X3 qO_inst qO_code rfl ?_
  refine gb_aload_n C dX3_init_4 rfl rfl ?_
  refine gb_bipush (v := nI 10) C dX3_init_5 (by decide) ?_
  refine gd_newa (ty := .int) (t := 0) (N := 10) (a0 := (10, .inl (fun _ => 0))) C rfl (Or.inl rfl) dX3_init_7 qA_int rfl (fun _ => rfl) rfl rfl rfl rfl rfl rfl (Or.inl ⟨rfl, rfl⟩) ?_
  refine gd_putL (CN := RX3) (T := TX3) (N := 8) (f := 0) (ty0 := tyX3) (fs' := [.ref (E.2.2 + 23), .null, .int 0, .int 0, .int 0, .int 0, .int 0, .int 0]) C hin dX3_init_9 rfl rfl rfl lay_X3 tyX3_ok nmX3 qf_X3_9 rfl rfl rfl rfl rfl ?_
  refine gb_aload_n C dX3_init_12 rfl rfl ?_
  refine gb_iconst (v := nI 4) C dX3_init_13 (by decide) ?_
  refine gd_newa (ty := .int) (t := 0) (N := 4) (a0 := (4, .inl (fun _ => 0))) C rfl (Or.inl rfl) dX3_init_14 qA_int rfl (fun _ => rfl) rfl rfl rfl rfl rfl rfl (Or.inl ⟨rfl, rfl⟩) ?_
  refine gd_putL (CN := RX3) (T := TX3) (N := 8) (f := 1) (ty0 := tyX3) (fs' := [.ref (E.2.2 + 23), .ref (E.2.2 + 24), .int 0, .int 0, .int 0, .int 0, .int 0, .int 0]) C hin dX3_init_16 rfl rfl rfl lay_X3 tyX3_ok nmX3 qf_X3_15 rfl rfl rfl rfl rfl ?_
  refine gb_aload_n C dX3_init_19 rfl rfl ?_
  refine gb_iconst (v := nI 0) C dX3_init_20 (by decide) ?_
  refine gd_putL (CN := RX3) (T := TX3) (N := 8) (f := 2) (ty0 := tyX3) (fs' := [.ref (E.2.2 + 23), .ref (E.2.2 + 24), .int (nI 0), .int 0, .int 0, .int 0, .int 0, .int 0]) C hin dX3_init_21 rfl rfl rfl lay_X3 tyX3_ok nmX3 qf_X3_18 rfl rfl rfl rfl rfl ?_
  refine gb_aload_n C dX3_init_24 rfl rfl ?_
  refine gb_iconst (v := nI 0) C dX3_init_25 (by decide) ?_
  refine gd_putL (CN := RX3) (T := TX3) (N := 8) (f := 3) (ty0 := tyX3) (fs' := [.ref (E.2.2 + 23), .ref (E.2.2 + 24), .int (nI 0), .int (nI 0), .int 0, .int 0, .int 0, .int 0]) C hin dX3_init_26 rfl rfl rfl lay_X3 tyX3_ok nmX3 qf_X3_22 rfl rfl rfl rfl rfl ?_
  refine gb_aload_n C dX3_init_29 rfl rfl ?_
  refine gb_iconst (v := nI 0) C dX3_init_30 (by decide) ?_
  refine gd_putL (CN := RX3) (T := TX3) (N := 8) (f := 4) (ty0 := tyX3) (fs' := [.ref (E.2.2 + 23), .ref (E.2.2 + 24), .int (nI 0), .int (nI 0), .int (nI 0), .int 0, .int 0, .int 0]) C hin dX3_init_31 rfl rfl rfl lay_X3 tyX3_ok nmX3 qf_X3_25 rfl rfl rfl rfl rfl ?_
  refine gb_aload_n C dX3_init_34 rfl rfl ?_
  refine gb_iconst (v := nI 0) C dX3_init_35 (by decide) ?_
  refine gd_putL (CN := RX3) (T := TX3) (N := 8) (f := 5) (ty0 := tyX3) (fs' := [.ref (E.2.2 + 23), .ref (E.2.2 + 24), .int (nI 0), .int (nI 0), .int (nI 0), .int (nI 0), .int 0, .int 0]) C hin dX3_init_36 rfl rfl rfl lay_X3 tyX3_ok nmX3 qf_X3_28 rfl rfl rfl rfl rfl ?_
  refine gb_aload_n C dX3_init_39 rfl rfl ?_
  refine gb_iconst (v := nI 0) C dX3_init_40 (by decide) ?_
  refine gd_putL (CN := RX3) (T := TX3) (N := 8) (f := 6) (ty0 := tyX3) (fs' := [.ref (E.2.2 + 23), .ref (E.2.2 + 24), .int (nI 0), .int (nI 0), .int (nI 0), .int (nI 0), .int (nI 0), .int 0]) C hin dX3_init_41 rfl rfl rfl lay_X3 tyX3_ok nmX3 qf_X3_31 rfl rfl rfl rfl rfl ?_
  refine gb_aload_n C dX3_init_44 rfl rfl ?_
  refine gb_iconst (v := nI 0) C dX3_init_45 (by decide) ?_
  refine gd_putL (CN := RX3) (T := TX3) (N := 8) (f := 7) (ty0 := tyX3) (fs' := [.ref (E.2.2 + 23), .ref (E.2.2 + 24), .int (nI 0), .int (nI 0), .int (nI 0), .int (nI 0), .int (nI 0), .int (nI 0)]) C hin dX3_init_46 rfl rfl rfl lay_X3 tyX3_ok nmX3 qf_X3_34 rfl rfl rfl rfl rfl ?_
  exact gd_ret C R dX3_init_49 rfl rfl (fun _ => rfl)
set_option maxRecDepth 20000 in
set_option maxHeartbeats 1000000 in
theorem mk_66 {E : wEnv} : ∀ D : Dw, D 66 = .inr (3, z_X3) → Mb E yX3_init cX3_init 1 0 2 14 66 D 67 (dF E 66 D) 69 := by
  intro D hD
  refine mb_intro (own := RX3) (by decide) rfl rfl (by decide) (fun Y C hin R => ?_)
  refine gd_start (k := 66) hD ?_
  refine gb_aload_n C dX3_init_0 rfl rfl ?_
  refine gb_objInit C dX3_init_1 qO_X3 qO_inst qO_code rfl ?_
  refine gb_aload_n C dX3_init_4 rfl rfl ?_
  refine gb_bipush (v := nI 10) C dX3_init_5 (by decide) ?_
  refine gd_newa (ty := .int) (t := 0) (N := 10) (a0 := (10, .inl (fun _ => 0))) C rfl (Or.inl rfl) dX3_init_7 qA_int rfl (fun _ => rfl) rfl rfl rfl rfl rfl rfl (Or.inl ⟨rfl, rfl⟩) ?_
  refine gd_putL (CN := RX3) (T := TX3) (N := 8) (f := 0) (ty0 := tyX3) (fs' := [.ref (E.2.2 + 67), .null, .int 0, .int 0, .int 0, .int 0, .int 0, .int 0]) C hin dX3_init_9 rfl rfl rfl lay_X3 tyX3_ok nmX3 qf_X3_9 rfl rfl rfl rfl rfl ?_
  refine gb_aload_n C dX3_init_12 rfl rfl ?_
  refine gb_iconst (v := nI 4) C dX3_init_13 (by decide) ?_
  refine gd_newa (ty := .int) (t := 0) (N := 4) (a0 := (4, .inl (fun _ => 0))) C rfl (Or.inl rfl) dX3_init_14 qA_int rfl (fun _ => rfl) rfl rfl rfl rfl rfl rfl (Or.inl ⟨rfl, rfl⟩) ?_
  refine gd_putL (CN := RX3) (T := TX3) (N := 8) (f := 1) (ty0 := tyX3) (fs' := [.ref (E.2.2 + 67), .ref (E.2.2 + 68), .int 0, .int 0, .int 0, .int 0, .int 0, .int 0]) C hin dX3_init_16 rfl rfl rfl lay_X3 tyX3_ok nmX3 qf_X3_15 rfl rfl rfl rfl rfl ?_
  refine gb_aload_n C dX3_init_19 rfl rfl ?_
  refine gb_iconst (v := nI 0) C dX3_init_20 (by decide) ?_
  refine gd_putL (CN := RX3) (T := TX3) (N := 8) (f := 2) (ty0 := tyX3) (fs' := [.ref (E.2.2 + 67), .ref (E.2.2 + 68), .int (nI 0), .int 0, .int 0, .int 0, .int 0, .int 0]) C hin dX3_init_21 rfl rfl rfl lay_X3 tyX3_ok nmX3 qf_X3_18 rfl rfl rfl rfl rfl ?_
  refine gb_aload_n C dX3_init_24 rfl rfl ?_
  refine gb_iconst (v := nI 0) C dX3_init_25 (by decide) ?_
  refine gd_putL (CN := RX3) (T := TX3) (N := 8) (f := 3) (ty0 := tyX3) (fs' := [.ref (E.2.2 + 67), .ref (E.2.2 + 68), .int (nI 0), .int (nI 0), .int 0, .int 0, .int 0, .int 0]) C hin dX3_init_26 rfl rfl rfl lay_X3 tyX3_ok nmX3 qf_X3_22 rfl rfl rfl rfl rfl ?_
  refine gb_aload_n C dX3_init_29 rfl rfl ?_
  refine gb_iconst (v := nI 0) C dX3_init_30 (by decide) ?_
  refine gd_putL (CN := RX3) (T := TX3) (N := 8) (f := 4) (ty0 := tyX3) (fs' := [.ref (E.2.2 + 67), .ref (E.2.2 + 68), .int (nI 0), .int (nI 0), .int (nI 0), .int 0, .int 0, .int 0]) C hin dX3_init_31 rfl rfl rfl lay_X3 tyX3_ok nmX3 qf_X3_25 rfl rfl rfl rfl rfl ?_
  refine gb_aload_n C dX3_init_34 rfl rfl ?_
  refine gb_iconst (v := nI 0) C dX3_init_35 (by decide) ?_
  refine gd_putL (CN := RX3) (T := TX3) (N := 8) (f := 5) (ty0 := tyX3) (fs' := [.ref (E.2.2 + 67), .ref (E.2.2 + 68), .int (nI 0), .int (nI 0), .int (nI 0), .int (nI 0), .int 0, .int 0]) C hin dX3_init_36 rfl rfl rfl lay_X3 tyX3_ok nmX3 qf_X3_28 rfl rfl rfl rfl rfl ?_
  refine gb_aload_n C dX3_init_39 rfl rfl ?_
  refine gb_iconst (v := nI 0) C dX3_init_40 (by decide) ?_
  refine gd_putL (CN := RX3) (T := TX3) (N := 8) (f := 6) (ty0 := tyX3) (fs' := [.ref (E.2.2 + 67), .ref (E.2.2 + 68), .int (nI 0), .int (nI 0), .int (nI 0), .int (nI 0), .int (nI 0), .int 0]) C hin dX3_init_41 rfl rfl rfl lay_X3 tyX3_ok nmX3 qf_X3_31 rfl rfl rfl rfl rfl ?_
  refine gb_aload_n C dX3_init_44 rfl rfl ?_
  refine gb_iconst (v := nI 0) C dX3_init_45 (by decide) ?_
  refine gd_putL (CN := RX3) (T := TX3) (N := 8) (f := 7) (ty0 := tyX3) (fs' := [.ref (E.2.2 + 67), .ref (E.2.2 + 68), .int (nI 0), .int (nI 0), .int (nI 0), .int (nI 0), .int (nI 0), .int (nI 0)]) C hin dX3_init_46 rfl rfl rfl lay_X3 tyX3_ok nmX3 qf_X3_34 rfl rfl rfl rfl rfl ?_
  exact gd_ret C R dX3_init_49 rfl rfl (fun _ => rfl)
set_option maxRecDepth 20000 in
set_option maxHeartbeats 1000000 in
theorem mk_69 {E : wEnv} : ∀ D : Dw, D 69 = .inr (3, z_X3) → Mb E yX3_init cX3_init 1 0 2 14 69 D 70 (dF E 69 D) 72 := by
  intro D hD
  refine mb_intro (own := RX3) (by decide) rfl rfl (by decide) (fun Y C hin R => ?_)
  refine gd_start (k := 69) hD ?_
  refine gb_aload_n C dX3_init_0 rfl rfl ?_
  refine gb_objInit C dX3_init_1 qO_X3 qO_inst qO_code rfl ?_
  refine gb_aload_n C dX3_init_4 rfl rfl ?_
  refine gb_bipush (v := nI 10) C dX3_init_5 (by decide) ?_
  refine gd_newa (ty := .int) (t := 0) (N := 10) (a0 := (10, .inl (fun _ => 0))) C rfl (Or.inl rfl) dX3_init_7 qA_int rfl (fun _ => rfl) rfl rfl rfl rfl rfl rfl (Or.inl ⟨rfl, rfl⟩) ?_
  refine gd_putL (CN := RX3) (T := TX3) (N := 8) (f := 0) (ty0 := tyX3) (fs' := [.ref (E.2.2 + 70), .null, .int 0, .int 0, .int 0, .int 0, .int 0, .int 0]) C hin dX3_init_9 rfl rfl rfl lay_X3 tyX3_ok nmX3 qf_X3_9 rfl rfl rfl rfl rfl ?_
  refine gb_aload_n C dX3_init_12 rfl rfl ?_
  refine gb_iconst (v := nI 4) C dX3_init_13 (by decide) ?_
  refine gd_newa (ty := .int) (t := 0) (N := 4) (a0 := (4, .inl (fun _ => 0))) C rfl (Or.inl rfl) dX3_init_14 qA_int rfl (fun _ => rfl) rfl rfl rfl rfl rfl rfl (Or.inl ⟨rfl, rfl⟩) ?_
  refine gd_putL (CN := RX3) (T := TX3) (N := 8) (f := 1) (ty0 := tyX3) (fs' := [.ref (E.2.2 + 70), .ref (E.2.2 + 71), .int 0, .int 0, .int 0, .int 0, .int 0, .int 0]) C hin dX3_init_16 rfl rfl rfl lay_X3 tyX3_ok nmX3 qf_X3_15 rfl rfl rfl rfl rfl ?_
  refine gb_aload_n C dX3_init_19 rfl rfl ?_
  refine gb_iconst (v := nI 0) C dX3_init_20 (by decide) ?_
  refine gd_putL (CN := RX3) (T := TX3) (N := 8) (f := 2) (ty0 := tyX3) (fs' := [.ref (E.2.2 + 70), .ref (E.2.2 + 71), .int (nI 0), .int 0, .int 0, .int 0, .int 0, .int 0]) C hin dX3_init_21 rfl rfl rfl lay_X3 tyX3_ok nmX3 qf_X3_18 rfl rfl rfl rfl rfl ?_
  refine gb_aload_n C dX3_init_24 rfl rfl ?_
  refine gb_iconst (v := nI 0) C dX3_init_25 (by decide) ?_
  refine gd_putL (CN := RX3) (T := TX3) (N := 8) (f := 3) (ty0 := tyX3) (fs' := [.ref (E.2.2 + 70), .ref (E.2.2 + 71), .int (nI 0), .int (nI 0), .int 0, .int 0, .int 0, .int 0]) C hin dX3_init_26 rfl rfl rfl lay_X3 tyX3_ok nmX3 qf_X3_22 rfl rfl rfl rfl rfl ?_
  refine gb_aload_n C dX3_init_29 rfl rfl ?_
  refine gb_iconst (v := nI 0) C dX3_init_30 (by decide) ?_
  refine gd_putL (CN := RX3) (T := TX3) (N := 8) (f := 4) (ty0 := tyX3) (fs' := [.ref (E.2.2 + 70), .ref (E.2.2 + 71), .int (nI 0), .int (nI 0), .int (nI 0), .int 0, .int 0, .int 0]) C hin dX3_init_31 rfl rfl rfl lay_X3 tyX3_ok nmX3 qf_X3_25 rfl rfl rfl rfl rfl ?_
  refine gb_aload_n C dX3_init_34 rfl rfl ?_
  refine gb_iconst (v := nI 0) C dX3_init_35 (by decide) ?_
  refine gd_putL (CN := RX3) (T := TX3) (N := 8) (f := 5) (ty0 := tyX3) (fs' := [.ref (E.2.2 + 70), .ref (E.2.2 + 71), .int (nI 0), .int (nI 0), .int (nI 0), .int (nI 0), .int 0, .int 0]) C hin dX3_init_36 rfl rfl rfl lay_X3 tyX3_ok nmX3 qf_X3_28 rfl rfl rfl rfl rfl ?_
  refine gb_aload_n C dX3_init_39 rfl rfl ?_
  refine gb_iconst (v := nI 0) C dX3_init_40 (by decide) ?_
  refine gd_putL (CN := RX3) (T := TX3) (N := 8) (f := 6) (ty0 := tyX3) (fs' := [.ref (E.2.2 + 70), .ref (E.2.2 + 71), .int (nI 0), .int (nI 0), .int (nI 0), .int (nI 0), .int (nI 0), .int 0]) C hin dX3_init_41 rfl rfl rfl lay_X3 tyX3_ok nmX3 qf_X3_31 rfl rfl rfl rfl rfl ?_
  refine gb_aload_n C dX3_init_44 rfl rfl ?_
  refine gb_iconst (v := nI 0) C dX3_init_45 (by decide) ?_
  refine gd_putL (CN := RX3) (T := TX3) (N := 8) (f := 7) (ty0 := tyX3) (fs' := [.ref (E.2.2 + 70), .ref (E.2.2 + 71), .int (nI 0), .int (nI 0), .int (nI 0), .int (nI 0), .int (nI 0), .int (nI 0)]) C hin dX3_init_46 rfl rfl rfl lay_X3 tyX3_ok nmX3 qf_X3_34 rfl rfl rfl rfl rfl ?_
  exact gd_ret C R dX3_init_49 rfl rfl (fun _ => rfl)
set_option maxRecDepth 20000 in
set_option maxHeartbeats 1000000 in
theorem mk_72 {E : wEnv} : ∀ D : Dw, D 72 = .inr (3, z_X3) → Mb E yX3_init cX3_init 1 0 2 14 72 D 73 (dF E 72 D) 75 := by
  intro D hD
  refine mb_intro (own := RX3) (by decide) rfl rfl (by decide) (fun Y C hin R => ?_)
  refine gd_start (k := 72) hD ?_
  refine gb_aload_n C dX3_init_0 rfl rfl ?_
  refine gb_objInit C dX3_init_1 qO_X3 qO_inst qO_code rfl ?_
  refine gb_aload_n C dX3_init_4 rfl rfl ?_
  refine gb_bipush (v := nI 10) C dX3_init_5 (by decide) ?_
  refine gd_newa (ty := .int) (t := 0) (N := 10) (a0 := (10, .inl (fun _ => 0))) C rfl (Or.inl rfl) dX3_init_7 qA_int rfl (fun _ => rfl) rfl rfl rfl rfl rfl rfl (Or.inl ⟨rfl, rfl⟩) ?_
  refine gd_putL (CN := RX3) (T := TX3) (N := 8) (f := 0) (ty0 := tyX3) (fs' := [.ref (E.2.2 + 73), .null, .int 0, .int 0, .int 0, .int 0, .int 0, .int 0]) C hin dX3_init_9 rfl rfl rfl lay_X3 tyX3_ok nmX3 qf_X3_9 rfl rfl rfl rfl rfl ?_
  refine gb_aload_n C dX3_init_12 rfl rfl ?_
  refine gb_iconst (v := nI 4) C dX3_init_13 (by decide) ?_
  refine gd_newa (ty := .int) (t := 0) (N := 4) (a0 := (4, .inl (fun _ => 0))) C rfl (Or.inl rfl) dX3_init_14 qA_int rfl (fun _ => rfl) rfl rfl rfl rfl rfl rfl (Or.inl ⟨rfl, rfl⟩) ?_
  refine gd_putL (CN := RX3) (T := TX3) (N := 8) (f := 1) (ty0 := tyX3) (fs' := [.ref (E.2.2 + 73), .ref (E.2.2 + 74), .int 0, .int 0, .int 0, .int 0, .int 0, .int 0]) C hin dX3_init_16 rfl rfl rfl lay_X3 tyX3_ok nmX3 qf_X3_15 rfl rfl rfl rfl rfl ?_
  refine gb_aload_n C dX3_init_19 rfl rfl ?_
  refine gb_iconst (v := nI 0) C dX3_init_20 (by decide) ?_
  refine gd_putL (CN := RX3) (T := TX3) (N := 8) (f := 2) (ty0 := tyX3) (fs' := [.ref (E.2.2 + 73), .ref (E.2.2 + 74), .int (nI 0), .int 0, .int 0, .int 0, .int 0, .int 0]) C hin dX3_init_21 rfl rfl rfl lay_X3 tyX3_ok nmX3 qf_X3_18 rfl rfl rfl rfl rfl ?_
  refine gb_aload_n C dX3_init_24 rfl rfl ?_
  refine gb_iconst (v := nI 0) C dX3_init_25 (by decide) ?_
  refine gd_putL (CN := RX3) (T := TX3) (N := 8) (f := 3) (ty0 := tyX3) (fs' := [.ref (E.2.2 + 73), .ref (E.2.2 + 74), .int (nI 0), .int (nI 0), .int 0, .int 0, .int 0, .int 0]) C hin dX3_init_26 rfl rfl rfl lay_X3 tyX3_ok nmX3 qf_X3_22 rfl rfl rfl rfl rfl ?_
  refine gb_aload_n C dX3_init_29 rfl rfl ?_
  refine gb_iconst (v := nI 0) C dX3_init_30 (by decide) ?_
  refine gd_putL (CN := RX3) (T := TX3) (N := 8) (f := 4) (ty0 := tyX3) (fs' := [.ref (E.2.2 + 73), .ref (E.2.2 + 74), .int (nI 0), .int (nI 0), .int (nI 0), .int 0, .int 0, .int 0]) C hin dX3_init_31 rfl rfl rfl lay_X3 tyX3_ok nmX3 qf_X3_25 rfl rfl rfl rfl rfl ?_
  refine gb_aload_n C dX3_init_34 rfl rfl ?_
  refine gb_iconst (v := nI 0) C dX3_init_35 (by decide) ?_
  refine gd_putL (CN := RX3) (T := TX3) (N := 8) (f := 5) (ty0 := tyX3) (fs' := [.ref (E.2.2 + 73), .ref (E.2.2 + 74), .int (nI 0), .int (nI 0), .int (nI 0), .int (nI 0), .int 0, .int 0]) C hin dX3_init_36 rfl rfl rfl lay_X3 tyX3_ok nmX3 qf_X3_28 rfl rfl rfl rfl rfl ?_
  refine gb_aload_n C dX3_init_39 rfl rfl ?_
  refine gb_iconst (v := nI 0) C dX3_init_40 (by decide) ?_
  refine gd_putL (CN := RX3) (T := TX3) (N := 8) (f := 6) (ty0 := tyX3) (fs' := [.ref (E.2.2 + 73), .ref (E.2.2 + 74), .int (nI 0), .int (nI 0), .int (nI 0), .int (nI 0), .int (nI 0), .int 0]) C hin dX3_init_41 rfl rfl rfl lay_X3 tyX3_ok nmX3 qf_X3_31 rfl rfl rfl rfl rfl ?_
  refine gb_aload_n C dX3_init_44 rfl rfl ?_
  refine gb_iconst (v := nI 0) C dX3_init_45 (by decide) ?_
  refine gd_putL (CN := RX3) (T := TX3) (N := 8) (f := 7) (ty0 := tyX3) (fs' := [.ref (E.2.2 + 73), .ref (E.2.2 + 74), .int (nI 0), .int (nI 0), .int (nI 0), .int (nI 0), .int (nI 0), .int (nI 0)]) C hin dX3_init_46 rfl rfl rfl lay_X3 tyX3_ok nmX3 qf_X3_34 rfl rfl rfl rfl rfl ?_
  exact gd_ret C R dX3_init_49 rfl rfl (fun _ => rfl)
set_option maxRecDepth 20000 in
set_option maxHeartbeats 1000000 in
theorem mk_75 {E : wEnv} : ∀ D : Dw, D 75 = .inr (3, z_X3) → Mb E yX3_init cX3_init 1 0 2 14 75 D 76 (dF E 75 D) 78 := by
  intro D hD
  refine mb_intro (own := RX3) (by decide) rfl rfl (by decide) (fun Y C hin R => ?_)
  refine gd_start (k := 75) hD ?_
  refine gb_aload_n C dX3_init_0 rfl rfl ?_
  refine gb_objInit C dX3_init_1 qO_X3 qO_inst qO_code rfl ?_
  refine gb_aload_n C dX3_init_4 rfl rfl ?_
  refine gb_bipush (v := nI 10) C dX3_init_5 (by decide) ?_
  refine gd_newa (ty := .int) (t := 0) (N := 10) (a0 := (10, .inl (fun _ => 0))) C rfl (Or.inl rfl) dX3_init_7 qA_int rfl (fun _ => rfl) rfl rfl rfl rfl rfl rfl (Or.inl ⟨rfl, rfl⟩) ?_
  refine gd_putL (CN := RX3) (T := TX3) (N := 8) (f := 0) (ty0 := tyX3) (fs' := [.ref (E.2.2 + 76), .null, .int 0, .int 0, .int 0, .int 0, .int 0, .int 0]) C hin dX3_init_9 rfl rfl rfl lay_X3 tyX3_ok nmX3 qf_X3_9 rfl rfl rfl rfl rfl ?_
  refine gb_aload_n C dX3_init_12 rfl rfl ?_
  refine gb_iconst (v := nI 4) C dX3_init_13 (by decide) ?_
  refine gd_newa (ty := .int) (t := 0) (N := 4) (a0 := (4, .inl (fun _ => 0))) C rfl (Or.inl rfl) dX3_init_14 qA_int rfl (fun _ => rfl) rfl rfl rfl rfl rfl rfl (Or.inl ⟨rfl, rfl⟩) ?_
  refine gd_putL (CN := RX3) (T := TX3) (N := 8) (f := 1) (ty0 := tyX3) (fs' := [.ref (E.2.2 + 76), .ref (E.2.2 + 77), .int 0, .int 0, .int 0, .int 0, .int 0, .int 0]) C hin dX3_init_16 rfl rfl rfl lay_X3 tyX3_ok nmX3 qf_X3_15 rfl rfl rfl rfl rfl ?_
  refine gb_aload_n C dX3_init_19 rfl rfl ?_
  refine gb_iconst (v := nI 0) C dX3_init_20 (by decide) ?_
  refine gd_putL (CN := RX3) (T := TX3) (N := 8) (f := 2) (ty0 := tyX3) (fs' := [.ref (E.2.2 + 76), .ref (E.2.2 + 77), .int (nI 0), .int 0, .int 0, .int 0, .int 0, .int 0]) C hin dX3_init_21 rfl rfl rfl lay_X3 tyX3_ok nmX3 qf_X3_18 rfl rfl rfl rfl rfl ?_
  refine gb_aload_n C dX3_init_24 rfl rfl ?_
  refine gb_iconst (v := nI 0) C dX3_init_25 (by decide) ?_
  refine gd_putL (CN := RX3) (T := TX3) (N := 8) (f := 3) (ty0 := tyX3) (fs' := [.ref (E.2.2 + 76), .ref (E.2.2 + 77), .int (nI 0), .int (nI 0), .int 0, .int 0, .int 0, .int 0]) C hin dX3_init_26 rfl rfl rfl lay_X3 tyX3_ok nmX3 qf_X3_22 rfl rfl rfl rfl rfl ?_
  refine gb_aload_n C dX3_init_29 rfl rfl ?_
  refine gb_iconst (v := nI 0) C dX3_init_30 (by decide) ?_
  refine gd_putL (CN := RX3) (T := TX3) (N := 8) (f := 4) (ty0 := tyX3) (fs' := [.ref (E.2.2 + 76), .ref (E.2.2 + 77), .int (nI 0), .int (nI 0), .int (nI 0), .int 0, .int 0, .int 0]) C hin dX3_init_31 rfl rfl rfl lay_X3 tyX3_ok nmX3 qf_X3_25 rfl rfl rfl rfl rfl ?_
  refine gb_aload_n C dX3_init_34 rfl rfl ?_
  refine gb_iconst (v := nI 0) C dX3_init_35 (by decide) ?_
  refine gd_putL (CN := RX3) (T := TX3) (N := 8) (f := 5) (ty0 := tyX3) (fs' := [.ref (E.2.2 + 76), .ref (E.2.2 + 77), .int (nI 0), .int (nI 0), .int (nI 0), .int (nI 0), .int 0, .int 0]) C hin dX3_init_36 rfl rfl rfl lay_X3 tyX3_ok nmX3 qf_X3_28 rfl rfl rfl rfl rfl ?_
  refine gb_aload_n C dX3_init_39 rfl rfl ?_
  refine gb_iconst (v := nI 0) C dX3_init_40 (by decide) ?_
  refine gd_putL (CN := RX3) (T := TX3) (N := 8) (f := 6) (ty0 := tyX3) (fs' := [.ref (E.2.2 + 76), .ref (E.2.2 + 77), .int (nI 0), .int (nI 0), .int (nI 0), .int (nI 0), .int (nI 0), .int 0]) C hin dX3_init_41 rfl rfl rfl lay_X3 tyX3_ok nmX3 qf_X3_31 rfl rfl rfl rfl rfl ?_
  refine gb_aload_n C dX3_init_44 rfl rfl ?_
  refine gb_iconst (v := nI 0) C dX3_init_45 (by decide) ?_
  refine gd_putL (CN := RX3) (T := TX3) (N := 8) (f := 7) (ty0 := tyX3) (fs' := [.ref (E.2.2 + 76), .ref (E.2.2 + 77), .int (nI 0), .int (nI 0), .int (nI 0), .int (nI 0), .int (nI 0), .int (nI 0)]) C hin dX3_init_46 rfl rfl rfl lay_X3 tyX3_ok nmX3 qf_X3_34 rfl rfl rfl rfl rfl ?_
  exact gd_ret C R dX3_init_49 rfl rfl (fun _ => rfl)
set_option maxRecDepth 20000 in
set_option maxHeartbeats 1000000 in
theorem mk_78 {E : wEnv} : ∀ D : Dw, D 78 = .inr (3, z_X3) → Mb E yX3_init cX3_init 1 0 2 14 78 D 79 (dF E 78 D) 81 := by
  intro D hD
  refine mb_intro (own := RX3) (by decide) rfl rfl (by decide) (fun Y C hin R => ?_)
  refine gd_start (k := 78) hD ?_
  refine gb_aload_n C dX3_init_0 rfl rfl ?_
  refine gb_objInit C dX3_init_1 qO_X3 qO_inst qO_code rfl ?_
  refine gb_aload_n C dX3_init_4 rfl rfl ?_
  refine gb_bipush (v := nI 10) C dX3_init_5 (by decide) ?_
  refine gd_newa (ty := .int) (t := 0) (N := 10) (a0 := (10, .inl (fun _ => 0))) C rfl (Or.inl rfl) dX3_init_7 qA_int rfl (fun _ => rfl) rfl rfl rfl rfl rfl rfl (Or.inl ⟨rfl, rfl⟩) ?_
  refine gd_putL (CN := RX3) (T := TX3) (N := 8) (f := 0) (ty0 := tyX3) (fs' := [.ref (E.2.2 + 79), .null, .int 0, .int 0, .int 0, .int 0, .int 0, .int 0]) C hin dX3_init_9 rfl rfl rfl lay_X3 tyX3_ok nmX3 qf_X3_9 rfl rfl rfl rfl rfl ?_
  refine gb_aload_n C dX3_init_12 rfl rfl ?_
  refine gb_iconst (v := nI 4) C dX3_init_13 (by decide) ?_
  refine gd_newa (ty := .int) (t := 0) (N := 4) (a0 := (4, .inl (fun _ => 0))) C rfl (Or.inl rfl) dX3_init_14 qA_int rfl (fun _ => rfl) rfl rfl rfl rfl rfl rfl (Or.inl ⟨rfl, rfl⟩) ?_
  refine gd_putL (CN := RX3) (T := TX3) (N := 8) (f := 1) (ty0 := tyX3) (fs' := [.ref (E.2.2 + 79), .ref (E.2.2 + 80), .int 0, .int 0, .int 0, .int 0, .int 0, .int 0]) C hin dX3_init_16 rfl rfl rfl lay_X3 tyX3_ok nmX3 qf_X3_15 rfl rfl rfl rfl rfl ?_
  refine gb_aload_n C dX3_init_19 rfl rfl ?_
  refine gb_iconst (v := nI 0) C dX3_init_20 (by decide) ?_
  refine gd_putL (CN := RX3) (T := TX3) (N := 8) (f := 2) (ty0 := tyX3) (fs' := [.ref (E.2.2 + 79), .ref (E.2.2 + 80), .int (nI 0), .int 0, .int 0, .int 0, .int 0, .int 0]) C hin dX3_init_21 rfl rfl rfl lay_X3 tyX3_ok nmX3 qf_X3_18 rfl rfl rfl rfl rfl ?_
  refine gb_aload_n C dX3_init_24 rfl rfl ?_
  refine gb_iconst (v := nI 0) C dX3_init_25 (by decide) ?_
  refine gd_putL (CN := RX3) (T := TX3) (N := 8) (f := 3) (ty0 := tyX3) (fs' := [.ref (E.2.2 + 79), .ref (E.2.2 + 80), .int (nI 0), .int (nI 0), .int 0, .int 0, .int 0, .int 0]) C hin dX3_init_26 rfl rfl rfl lay_X3 tyX3_ok nmX3 qf_X3_22 rfl rfl rfl rfl rfl ?_
  refine gb_aload_n C dX3_init_29 rfl rfl ?_
  refine gb_iconst (v := nI 0) C dX3_init_30 (by decide) ?_
  refine gd_putL (CN := RX3) (T := TX3) (N := 8) (f := 4) (ty0 := tyX3) (fs' := [.ref (E.2.2 + 79), .ref (E.2.2 + 80), .int (nI 0), .int (nI 0), .int (nI 0), .int 0, .int 0, .int 0]) C hin dX3_init_31 rfl rfl rfl lay_X3 tyX3_ok nmX3 qf_X3_25 rfl rfl rfl rfl rfl ?_
  refine gb_aload_n C dX3_init_34 rfl rfl ?_
  refine gb_iconst (v := nI 0) C dX3_init_35 (by decide) ?_
  refine gd_putL (CN := RX3) (T := TX3) (N := 8) (f := 5) (ty0 := tyX3) (fs' := [.ref (E.2.2 + 79), .ref (E.2.2 + 80), .int (nI 0), .int (nI 0), .int (nI 0), .int (nI 0), .int 0, .int 0]) C hin dX3_init_36 rfl rfl rfl lay_X3 tyX3_ok nmX3 qf_X3_28 rfl rfl rfl rfl rfl ?_
  refine gb_aload_n C dX3_init_39 rfl rfl ?_
  refine gb_iconst (v := nI 0) C dX3_init_40 (by decide) ?_
  refine gd_putL (CN := RX3) (T := TX3) (N := 8) (f := 6) (ty0 := tyX3) (fs' := [.ref (E.2.2 + 79), .ref (E.2.2 + 80), .int (nI 0), .int (nI 0), .int (nI 0), .int (nI 0), .int (nI 0), .int 0]) C hin dX3_init_41 rfl rfl rfl lay_X3 tyX3_ok nmX3 qf_X3_31 rfl rfl rfl rfl rfl ?_
  refine gb_aload_n C dX3_init_44 rfl rfl ?_
  refine gb_iconst (v := nI 0) C dX3_init_45 (by decide) ?_
  refine gd_putL (CN := RX3) (T := TX3) (N := 8) (f := 7) (ty0 := tyX3) (fs' := [.ref (E.2.2 + 79), .ref (E.2.2 + 80), .int (nI 0), .int (nI 0), .int (nI 0), .int (nI 0), .int (nI 0), .int (nI 0)]) C hin dX3_init_46 rfl rfl rfl lay_X3 tyX3_ok nmX3 qf_X3_34 rfl rfl rfl rfl rfl ?_
  exact gd_ret C R dX3_init_49 rfl rfl (fun _ => rfl)
set_option maxRecDepth 20000 in
set_option maxHeartbeats 1000000 in
theorem mk_81 {E : wEnv} : ∀ D : Dw, D 81 = .inr (3, z_X3) → Mb E yX3_init cX3_init 1 0 2 14 81 D 82 (dF E 81 D) 84 := by
  intro D hD
  refine mb_intro (own := RX3) (by decide) rfl rfl (by decide) (fun Y C hin R => ?_)
  refine gd_start (k := 81) hD ?_
  refine gb_aload_n C dX3_init_0 rfl rfl ?_
  refine gb_objInit C dX3_init_1 qO_X3 qO_inst qO_code rfl ?_
  refine gb_aload_n C dX3_init_4 rfl rfl ?_
  refine gb_bipush (v := nI 10) C dX3_init_5 (by decide) ?_
  refine gd_newa (ty := .int) (t := 0) (N := 10) (a0 := (10, .inl (fun _ => 0))) C rfl (Or.inl rfl) dX3_init_7 qA_int rfl (fun _ => rfl) rfl rfl rfl rfl rfl rfl (Or.inl ⟨rfl, rfl⟩) ?_
  refine gd_putL (CN := RX3) (T := TX3) (N := 8) (f := 0) (ty0 := tyX3) (fs' := [.ref (E.2.2 + 82), .null, .int 0, .int 0, .int 0, .int 0, .int 0, .int 0]) C hin dX3_init_9 rfl rfl rfl lay_X3 tyX3_ok nmX3 qf_X3_9 rfl rfl rfl rfl rfl ?_
  refine gb_aload_n C dX3_init_12 rfl rfl ?_
  refine gb_iconst (v := nI 4) C dX3_init_13 (by decide) ?_
  refine gd_newa (ty := .int) (t := 0) (N := 4) (a0 := (4, .inl (fun _ => 0))) C rfl (Or.inl rfl) dX3_init_14 qA_int rfl (fun _ => rfl) rfl rfl rfl rfl rfl rfl (Or.inl ⟨rfl, rfl⟩) ?_
  refine gd_putL (CN := RX3) (T := TX3) (N := 8) (f := 1) (ty0 := tyX3) (fs' := [.ref (E.2.2 + 82), .ref (E.2.2 + 83), .int 0, .int 0, .int 0, .int 0, .int 0, .int 0]) C hin dX3_init_16 rfl rfl rfl lay_X3 tyX3_ok nmX3 qf_X3_15 rfl rfl rfl rfl rfl ?_
  refine gb_aload_n C dX3_init_19 rfl rfl ?_
  refine gb_iconst (v := nI 0) C dX3_init_20 (by decide) ?_
  refine gd_putL (CN := RX3) (T := TX3) (N := 8) (f := 2) (ty0 := tyX3) (fs' := [.ref (E.2.2 + 82), .ref (E.2.2 + 83), .int (nI 0), .int 0, .int 0, .int 0, .int 0, .int 0]) C hin dX3_init_21 rfl rfl rfl lay_X3 tyX3_ok nmX3 qf_X3_18 rfl rfl rfl rfl rfl ?_
  refine gb_aload_n C dX3_init_24 rfl rfl ?_
  refine gb_iconst (v := nI 0) C dX3_init_25 (by decide) ?_
  refine gd_putL (CN := RX3) (T := TX3) (N := 8) (f := 3) (ty0 := tyX3) (fs' := [.ref (E.2.2 + 82), .ref (E.2.2 + 83), .int (nI 0), .int (nI 0), .int 0, .int 0, .int 0, .int 0]) C hin dX3_init_26 rfl rfl rfl lay_X3 tyX3_ok nmX3 qf_X3_22 rfl rfl rfl rfl rfl ?_
  refine gb_aload_n C dX3_init_29 rfl rfl ?_
  refine gb_iconst (v := nI 0) C dX3_init_30 (by decide) ?_
  refine gd_putL (CN := RX3) (T := TX3) (N := 8) (f := 4) (ty0 := tyX3) (fs' := [.ref (E.2.2 + 82), .ref (E.2.2 + 83), .int (nI 0), .int (nI 0), .int (nI 0), .int 0, .int 0, .int 0]) C hin dX3_init_31 rfl rfl rfl lay_X3 tyX3_ok nmX3 qf_X3_25 rfl rfl rfl rfl rfl ?_
  refine gb_aload_n C dX3_init_34 rfl rfl ?_
  refine gb_iconst (v := nI 0) C dX3_init_35 (by decide) ?_
  refine gd_putL (CN := RX3) (T := TX3) (N := 8) (f := 5) (ty0 := tyX3) (fs' := [.ref (E.2.2 + 82), .ref (E.2.2 + 83), .int (nI 0), .int (nI 0), .int (nI 0), .int (nI 0), .int 0, .int 0]) C hin dX3_init_36 rfl rfl rfl lay_X3 tyX3_ok nmX3 qf_X3_28 rfl rfl rfl rfl rfl ?_
  refine gb_aload_n C dX3_init_39 rfl rfl ?_
  refine gb_iconst (v := nI 0) C dX3_init_40 (by decide) ?_
  refine gd_putL (CN := RX3) (T := TX3) (N := 8) (f := 6) (ty0 := tyX3) (fs' := [.ref (E.2.2 + 82), .ref (E.2.2 + 83), .int (nI 0), .int (nI 0), .int (nI 0), .int (nI 0), .int (nI 0), .int 0]) C hin dX3_init_41 rfl rfl rfl lay_X3 tyX3_ok nmX3 qf_X3_31 rfl rfl rfl rfl rfl ?_
  refine gb_aload_n C dX3_init_44 rfl rfl ?_
  refine gb_iconst (v := nI 0) C dX3_init_45 (by decide) ?_
  refine gd_putL (CN := RX3) (T := TX3) (N := 8) (f := 7) (ty0 := tyX3) (fs' := [.ref (E.2.2 + 82), .ref (E.2.2 + 83), .int (nI 0), .int (nI 0), .int (nI 0), .int (nI 0), .int (nI 0), .int (nI 0)]) C hin dX3_init_46 rfl rfl rfl lay_X3 tyX3_ok nmX3 qf_X3_34 rfl rfl rfl rfl rfl ?_
  exact gd_ret C R dX3_init_49 rfl rfl (fun _ => rfl)
set_option maxRecDepth 20000 in
set_option maxHeartbeats 1000000 in
theorem mk_101 {E : wEnv} : ∀ D : Dw, D 101 = .inr (3, z_X3) → Mb E yX3_init cX3_init 1 0 2 14 101 D 102 (dF E 101 D) 104 := by
  intro D hD
  refine mb_intro (own := RX3) (by decide) rfl rfl (by decide) (fun Y C hin R => ?_)
  refine gd_start (k := 101) hD ?_
  refine gb_aload_n C dX3_init_0 rfl rfl ?_
  refine gb_objInit C dX3_init_1 qO_X3 qO_inst qO_code rfl ?_
  refine gb_aload_n C dX3_init_4 rfl rfl ?_
  refine gb_bipush (v := nI 10) C dX3_init_5 (by decide) ?_
  refine gd_newa (ty := .int) (t := 0) (N := 10) (a0 := (10, .inl (fun _ => 0))) C rfl (Or.inl rfl) dX3_init_7 qA_int rfl (fun _ => rfl) rfl rfl rfl rfl rfl rfl (Or.inl ⟨rfl, rfl⟩) ?_
  refine gd_putL (CN := RX3) (T := TX3) (N := 8) (f := 0) (ty0 := tyX3) (fs' := [.ref (E.2.2 + 102), .null, .int 0, .int 0, .int 0, .int 0, .int 0, .int 0]) C hin dX3_init_9 rfl rfl rfl lay_X3 tyX3_ok nmX3 qf_X3_9 rfl rfl rfl rfl rfl ?_
  refine gb_aload_n C dX3_init_12 rfl rfl ?_
  refine gb_iconst (v := nI 4) C dX3_init_13 (by decide) ?_
  refine gd_newa (ty := .int) (t := 0) (N := 4) (a0 := (4, .inl (fun _ => 0))) C rfl (Or.inl rfl) dX3_init_14 qA_int rfl (fun _ => rfl) rfl rfl rfl rfl rfl rfl (Or.inl ⟨rfl, rfl⟩) ?_
  refine gd_putL (CN := RX3) (T := TX3) (N := 8) (f := 1) (ty0 := tyX3) (fs' := [.ref (E.2.2 + 102), .ref (E.2.2 + 103), .int 0, .int 0, .int 0, .int 0, .int 0, .int 0]) C hin dX3_init_16 rfl rfl rfl lay_X3 tyX3_ok nmX3 qf_X3_15 rfl rfl rfl rfl rfl ?_
  refine gb_aload_n C dX3_init_19 rfl rfl ?_
  refine gb_iconst (v := nI 0) C dX3_init_20 (by decide) ?_
  refine gd_putL (CN := RX3) (T := TX3) (N := 8) (f := 2) (ty0 := tyX3) (fs' := [.ref (E.2.2 + 102), .ref (E.2.2 + 103), .int (nI 0), .int 0, .int 0, .int 0, .int 0, .int 0]) C hin dX3_init_21 rfl rfl rfl lay_X3 tyX3_ok nmX3 qf_X3_18 rfl rfl rfl rfl rfl ?_
  refine gb_aload_n C dX3_init_24 rfl rfl ?_
  refine gb_iconst (v := nI 0) C dX3_init_25 (by decide) ?_
  refine gd_putL (CN := RX3) (T := TX3) (N := 8) (f := 3) (ty0 := tyX3) (fs' := [.ref (E.2.2 + 102), .ref (E.2.2 + 103), .int (nI 0), .int (nI 0), .int 0, .int 0, .int 0, .int 0]) C hin dX3_init_26 rfl rfl rfl lay_X3 tyX3_ok nmX3 qf_X3_22 rfl rfl rfl rfl rfl ?_
  refine gb_aload_n C dX3_init_29 rfl rfl ?_
  refine gb_iconst (v := nI 0) C dX3_init_30 (by decide) ?_
  refine gd_putL (CN := RX3) (T := TX3) (N := 8) (f := 4) (ty0 := tyX3) (fs' := [.ref (E.2.2 + 102), .ref (E.2.2 + 103), .int (nI 0), .int (nI 0), .int (nI 0), .int 0, .int 0, .int 0]) C hin dX3_init_31 rfl rfl rfl lay_X3 tyX3_ok nmX3 qf_X3_25 rfl rfl rfl rfl rfl ?_
  refine gb_aload_n C dX3_init_34 rfl rfl ?_
  refine gb_iconst (v := nI 0) C dX3_init_35 (by decide) ?_
  refine gd_putL (CN := RX3) (T := TX3) (N := 8) (f := 5) (ty0 := tyX3) (fs' := [.ref (E.2.2 + 102), .ref (E.2.2 + 103), .int (nI 0), .int (nI 0), .int (nI 0), .int (nI 0), .int 0, .int 0]) C hin dX3_init_36 rfl rfl rfl lay_X3 tyX3_ok nmX3 qf_X3_28 rfl rfl rfl rfl rfl ?_
  refine gb_aload_n C dX3_init_39 rfl rfl ?_
  refine gb_iconst (v := nI 0) C dX3_init_40 (by decide) ?_
  refine gd_putL (CN := RX3) (T := TX3) (N := 8) (f := 6) (ty0 := tyX3) (fs' := [.ref (E.2.2 + 102), .ref (E.2.2 + 103), .int (nI 0), .int (nI 0), .int (nI 0), .int (nI 0), .int (nI 0), .int 0]) C hin dX3_init_41 rfl rfl rfl lay_X3 tyX3_ok nmX3 qf_X3_31 rfl rfl rfl rfl rfl ?_
  refine gb_aload_n C dX3_init_44 rfl rfl ?_
  refine gb_iconst (v := nI 0) C dX3_init_45 (by decide) ?_
  refine gd_putL (CN := RX3) (T := TX3) (N := 8) (f := 7) (ty0 := tyX3) (fs' := [.ref (E.2.2 + 102), .ref (E.2.2 + 103), .int (nI 0), .int (nI 0), .int (nI 0), .int (nI 0), .int (nI 0), .int (nI 0)]) C hin dX3_init_46 rfl rfl rfl lay_X3 tyX3_ok nmX3 qf_X3_34 rfl rfl rfl rfl rfl ?_
  exact gd_ret C R dX3_init_49 rfl rfl (fun _ => rfl)
set_option maxRecDepth 20000 in
set_option maxHeartbeats 1000000 in
theorem mk_124 {E : wEnv} : ∀ D : Dw, D 124 = .inr (3, z_X3) → Mb E yX3_init cX3_init 1 0 2 14 124 D 125 (dF E 124 D) 127 := by
  intro D hD
  refine mb_intro (own := RX3) (by decide) rfl rfl (by decide) (fun Y C hin R => ?_)
  refine gd_start (k := 124) hD ?_
  refine gb_aload_n C dX3_init_0 rfl rfl ?_
  refine gb_objInit C dX3_init_1 qO_X3 qO_inst qO_code rfl ?_
  refine gb_aload_n C dX3_init_4 rfl rfl ?_
  refine gb_bipush (v := nI 10) C dX3_init_5 (by decide) ?_
  refine gd_newa (ty := .int) (t := 0) (N := 10) (a0 := (10, .inl (fun _ => 0))) C rfl (Or.inl rfl) dX3_init_7 qA_int rfl (fun _ => rfl) rfl rfl rfl rfl rfl rfl (Or.inl ⟨rfl, rfl⟩) ?_
  refine gd_putL (CN := RX3) (T := TX3) (N := 8) (f := 0) (ty0 := tyX3) (fs' := [.ref (E.2.2 + 125), .null, .int 0, .int 0, .int 0, .int 0, .int 0, .int 0]) C hin dX3_init_9 rfl rfl rfl lay_X3 tyX3_ok nmX3 qf_X3_9 rfl rfl rfl rfl rfl ?_
  refine gb_aload_n C dX3_init_12 rfl rfl ?_
  refine gb_iconst (v := nI 4) C dX3_init_13 (by decide) ?_
  refine gd_newa (ty := .int) (t := 0) (N := 4) (a0 := (4, .inl (fun _ => 0))) C rfl (Or.inl rfl) dX3_init_14 qA_int rfl (fun _ => rfl) rfl rfl rfl rfl rfl rfl (Or.inl ⟨rfl, rfl⟩) ?_
  refine gd_putL (CN := RX3) (T := TX3) (N := 8) (f := 1) (ty0 := tyX3) (fs' := [.ref (E.2.2 + 125), .ref (E.2.2 + 126), .int 0, .int 0, .int 0, .int 0, .int 0, .int 0]) C hin dX3_init_16 rfl rfl rfl lay_X3 tyX3_ok nmX3 qf_X3_15 rfl rfl rfl rfl rfl ?_
  refine gb_aload_n C dX3_init_19 rfl rfl ?_
  refine gb_iconst (v := nI 0) C dX3_init_20 (by decide) ?_
  refine gd_putL (CN := RX3) (T := TX3) (N := 8) (f := 2) (ty0 := tyX3) (fs' := [.ref (E.2.2 + 125), .ref (E.2.2 + 126), .int (nI 0), .int 0, .int 0, .int 0, .int 0, .int 0]) C hin dX3_init_21 rfl rfl rfl lay_X3 tyX3_ok nmX3 qf_X3_18 rfl rfl rfl rfl rfl ?_
  refine gb_aload_n C dX3_init_24 rfl rfl ?_
  refine gb_iconst (v := nI 0) C dX3_init_25 (by decide) ?_
  refine gd_putL (CN := RX3) (T := TX3) (N := 8) (f := 3) (ty0 := tyX3) (fs' := [.ref (E.2.2 + 125), .ref (E.2.2 + 126), .int (nI 0), .int (nI 0), .int 0, .int 0, .int 0, .int 0]) C hin dX3_init_26 rfl rfl rfl lay_X3 tyX3_ok nmX3 qf_X3_22 rfl rfl rfl rfl rfl ?_
  refine gb_aload_n C dX3_init_29 rfl rfl ?_
  refine gb_iconst (v := nI 0) C dX3_init_30 (by decide) ?_
  refine gd_putL (CN := RX3) (T := TX3) (N := 8) (f := 4) (ty0 := tyX3) (fs' := [.ref (E.2.2 + 125), .ref (E.2.2 + 126), .int (nI 0), .int (nI 0), .int (nI 0), .int 0, .int 0, .int 0]) C hin dX3_init_31 rfl rfl rfl lay_X3 tyX3_ok nmX3 qf_X3_25 rfl rfl rfl rfl rfl ?_
  refine gb_aload_n C dX3_init_34 rfl rfl ?_
  refine gb_iconst (v := nI 0) C dX3_init_35 (by decide) ?_
  refine gd_putL (CN := RX3) (T := TX3) (N := 8) (f := 5) (ty0 := tyX3) (fs' := [.ref (E.2.2 + 125), .ref (E.2.2 + 126), .int (nI 0), .int (nI 0), .int (nI 0), .int (nI 0), .int 0, .int 0]) C hin dX3_init_36 rfl rfl rfl lay_X3 tyX3_ok nmX3 qf_X3_28 rfl rfl rfl rfl rfl ?_
  refine gb_aload_n C dX3_init_39 rfl rfl ?_
  refine gb_iconst (v := nI 0) C dX3_init_40 (by decide) ?_
  refine gd_putL (CN := RX3) (T := TX3) (N := 8) (f := 6) (ty0 := tyX3) (fs' := [.ref (E.2.2 + 125), .ref (E.2.2 + 126), .int (nI 0), .int (nI 0), .int (nI 0), .int (nI 0), .int (nI 0), .int 0]) C hin dX3_init_41 rfl rfl rfl lay_X3 tyX3_ok nmX3 qf_X3_31 rfl rfl rfl rfl rfl ?_
  refine gb_aload_n C dX3_init_44 rfl rfl ?_
  refine gb_iconst (v := nI 0) C dX3_init_45 (by decide) ?_
  refine gd_putL (CN := RX3) (T := TX3) (N := 8) (f := 7) (ty0 := tyX3) (fs' := [.ref (E.2.2 + 125), .ref (E.2.2 + 126), .int (nI 0), .int (nI 0), .int (nI 0), .int (nI 0), .int (nI 0), .int (nI 0)]) C hin dX3_init_46 rfl rfl rfl lay_X3 tyX3_ok nmX3 qf_X3_34 rfl rfl rfl rfl rfl ?_
  exact gd_ret C R dX3_init_49 rfl rfl (fun _ => rfl)
set_option maxRecDepth 20000 in
set_option maxHeartbeats 1000000 in
theorem mk_147 {E : wEnv} : ∀ D : Dw, D 147 = .inr (3, z_X3) → Mb E yX3_init cX3_init 1 0 2 14 147 D 148 (dF E 147 D) 150 := by
  intro D hD
  refine mb_intro (own := RX3) (by decide) rfl rfl (by decide) (fun Y C hin R => ?_)
  refine gd_start (k := 147) hD ?_
  refine gb_aload_n C dX3_init_0 rfl rfl ?_
  refine gb_objInit C dX3_init_1 qO_X3 qO_inst qO_code rfl ?_
  refine gb_aload_n C dX3_init_4 rfl rfl ?_
  refine gb_bipush (v := nI 10) C dX3_init_5 (by decide) ?_
  refine gd_newa (ty := .int) (t := 0) (N := 10) (a0 := (10, .inl (fun _ => 0))) C rfl (Or.inl rfl) dX3_init_7 qA_int rfl (fun _ => rfl) rfl rfl rfl rfl rfl rfl (Or.inl ⟨rfl, rfl⟩) ?_
  refine gd_putL (CN := RX3) (T := TX3) (N := 8) (f := 0) (ty0 := tyX3) (fs' := [.ref (E.2.2 + 148), .null, .int 0, .int 0, .int 0, .int 0, .int 0, .int 0]) C hin dX3_init_9 rfl rfl rfl lay_X3 tyX3_ok nmX3 qf_X3_9 rfl rfl rfl rfl rfl ?_
  refine gb_aload_n C dX3_init_12 rfl rfl ?_
  refine gb_iconst (v := nI 4) C dX3_init_13 (by decide) ?_
  refine gd_newa (ty := .int) (t := 0) (N := 4) (a0 := (4, .inl (fun _ => 0))) C rfl (Or.inl rfl) dX3_init_14 qA_int rfl (fun _ => rfl) rfl rfl rfl rfl rfl rfl (Or.inl ⟨rfl, rfl⟩) ?_
  refine gd_putL (CN := RX3) (T := TX3) (N := 8) (f := 1) (ty0 := tyX3) (fs' := [.ref (E.2.2 + 148), .ref (E.2.2 + 149), .int 0, .int 0, .int 0, .int 0, .int 0, .int 0]) C hin dX3_init_16 rfl rfl rfl lay_X3 tyX3_ok nmX3 qf_X3_15 rfl rfl rfl rfl rfl ?_
  refine gb_aload_n C dX3_init_19 rfl rfl ?_
  refine gb_iconst (v := nI 0) C dX3_init_20 (by decide) ?_
  refine gd_putL (CN := RX3) (T := TX3) (N := 8) (f := 2) (ty0 := tyX3) (fs' := [.ref (E.2.2 + 148), .ref (E.2.2 + 149), .int (nI 0), .int 0, .int 0, .int 0, .int 0, .int 0]) C hin dX3_init_21 rfl rfl rfl lay_X3 tyX3_ok nmX3 qf_X3_18 rfl rfl rfl rfl rfl ?_
  refine gb_aload_n C dX3_init_24 rfl rfl ?_
  refine gb_iconst (v := nI 0) C dX3_init_25 (by decide) ?_
  refine gd_putL (CN := RX3) (T := TX3) (N := 8) (f := 3) (ty0 := tyX3) (fs' := [.ref (E.2.2 + 148), .ref (E.2.2 + 149), .int (nI 0), .int (nI 0), .int 0, .int 0, .int 0, .int 0]) C hin dX3_init_26 rfl rfl rfl lay_X3 tyX3_ok nmX3 qf_X3_22 rfl rfl rfl rfl rfl ?_
  refine gb_aload_n C dX3_init_29 rfl rfl ?_
  refine gb_iconst (v := nI 0) C dX3_init_30 (by decide) ?_
  refine gd_putL (CN := RX3) (T := TX3) (N := 8) (f := 4) (ty0 := tyX3) (fs' := [.ref (E.2.2 + 148), .ref (E.2.2 + 149), .int (nI 0), .int (nI 0), .int (nI 0), .int 0, .int 0, .int 0]) C hin dX3_init_31 rfl rfl rfl lay_X3 tyX3_ok nmX3 qf_X3_25 rfl rfl rfl rfl rfl ?_
  refine gb_aload_n C dX3_init_34 rfl rfl ?_
  refine gb_iconst (v := nI 0) C dX3_init_35 (by decide) ?_
  refine gd_putL (CN := RX3) (T := TX3) (N := 8) (f := 5) (ty0 := tyX3) (fs' := [.ref (E.2.2 + 148), .ref (E.2.2 + 149), .int (nI 0), .int (nI 0), .int (nI 0), .int (nI 0), .int 0, .int 0]) C hin dX3_init_36 rfl rfl rfl lay_X3 tyX3_ok nmX3 qf_X3_28 rfl rfl rfl rfl rfl ?_
  refine gb_aload_n C dX3_init_39 rfl rfl ?_
  refine gb_iconst (v := nI 0) C dX3_init_40 (by decide) ?_
  refine gd_putL (CN := RX3) (T := TX3) (N := 8) (f := 6) (ty0 := tyX3) (fs' := [.ref (E.2.2 + 148), .ref (E.2.2 + 149), .int (nI 0), .int (nI 0), .int (nI 0), .int (nI 0), .int (nI 0), .int 0]) C hin dX3_init_41 rfl rfl rfl lay_X3 tyX3_ok nmX3 qf_X3_31 rfl rfl rfl rfl rfl ?_
  refine gb_aload_n C dX3_init_44 rfl rfl ?_
  refine gb_iconst (v := nI 0) C dX3_init_45 (by decide) ?_
  refine gd_putL (CN := RX3) (T := TX3) (N := 8) (f := 7) (ty0 := tyX3) (fs' := [.ref (E.2.2 + 148), .ref (E.2.2 + 149), .int (nI 0), .int (nI 0), .int (nI 0), .int (nI 0), .int (nI 0), .int (nI 0)]) C hin dX3_init_46 rfl rfl rfl lay_X3 tyX3_ok nmX3 qf_X3_34 rfl rfl rfl rfl rfl ?_
  exact gd_ret C R dX3_init_49 rfl rfl (fun _ => rfl)
set_option maxRecDepth 20000 in
set_option maxHeartbeats 1000000 in
theorem mk_25 {E : wEnv} : ∀ D : Dw, D 25 = .inr (7, z_X7) → Mb E yX7_init cX7_init 1 0 6 360 25 D 26 (dF E 25 D) 32 := by
  intro D hD
  refine mb_intro (own := RX7) (by decide) rfl rfl (by decide) (fun Y C hin R => ?_)
  refine gd_start (k := 25) hD ?_
  refine gb_aload_n C dX7_init_0 rfl rfl ?_
  refine gb_objInit C dX7_init_1 qO_X7 qO_inst qO_code rfl ?_
  refine gb_aload_n C dX7_init_4 rfl rfl ?_
  refine gb_bipush (v := nI 60) C dX7_init_5 (by decide) ?_
  refine gd_newa (ty := .int) (t := 0) (N := 60) (a0 := (60, .inl (fun _ => 0))) C rfl (Or.inl rfl) dX7_init_7 qA_int rfl (fun _ => rfl) rfl rfl rfl rfl rfl rfl (Or.inl ⟨rfl, rfl⟩) ?_
  refine gd_putL (CN := RX7) (T := TX7) (N := 9) (f := 0) (ty0 := tyX7) (fs' := [.ref (E.2.2 + 26), .null, .null, .null, .null, .null, .int 0, .int 0, .int 0]) C hin dX7_init_9 rfl rfl rfl lay_X7 tyX7_ok nmX7 qf_X7_9 rfl rfl rfl rfl rfl ?_
  refine gb_aload_n C dX7_init_12 rfl rfl ?_
  refine gb_bipush (v := nI 60) C dX7_init_13 (by decide) ?_
  refine gd_newa (ty := .int) (t := 0) (N := 60) (a0 := (60, .inl (fun _ => 0))) C rfl (Or.inl rfl) dX7_init_15 qA_int rfl (fun _ => rfl) rfl rfl rfl rfl rfl rfl (Or.inl ⟨rfl, rfl⟩) ?_
  refine gd_putL (CN := RX7) (T := TX7) (N := 9) (f := 1) (ty0 := tyX7) (fs' := [.ref (E.2.2 + 26), .ref (E.2.2 + 27), .null, .null, .null, .null, .int 0, .int 0, .int 0]) C hin dX7_init_17 rfl rfl rfl lay_X7 tyX7_ok nmX7 qf_X7_15 rfl rfl rfl rfl rfl ?_
  refine gb_aload_n C dX7_init_20 rfl rfl ?_
  refine gb_bipush (v := nI 60) C dX7_init_21 (by decide) ?_
  refine gd_newa (ty := .int) (t := 0) (N := 60) (a0 := (60, .inl (fun _ => 0))) C rfl (Or.inl rfl) dX7_init_23 qA_int rfl (fun _ => rfl) rfl rfl rfl rfl rfl rfl (Or.inl ⟨rfl, rfl⟩) ?_
  refine gd_putL (CN := RX7) (T := TX7) (N := 9) (f := 2) (ty0 := tyX7) (fs' := [.ref (E.2.2 + 26), .ref (E.2.2 + 27), .ref (E.2.2 + 28), .null, .null, .null, .int 0, .int 0, .int 0]) C hin dX7_init_25 rfl rfl rfl lay_X7 tyX7_ok nmX7 qf_X7_18 rfl rfl rfl rfl rfl ?_
  refine gb_aload_n C dX7_init_28 rfl rfl ?_
  refine gb_bipush (v := nI 60) C dX7_init_29 (by decide) ?_
  refine gd_newa (ty := .int) (t := 0) (N := 60) (a0 := (60, .inl (fun _ => 0))) C rfl (Or.inl rfl) dX7_init_31 qA_int rfl (fun _ => rfl) rfl rfl rfl rfl rfl rfl (Or.inl ⟨rfl, rfl⟩) ?_
  refine gd_putL (CN := RX7) (T := TX7) (N := 9) (f := 3) (ty0 := tyX7) (fs' := [.ref (E.2.2 + 26), .ref (E.2.2 + 27), .ref (E.2.2 + 28), .ref (E.2.2 + 29), .null, .null, .int 0, .int 0, .int 0]) C hin dX7_init_33 rfl rfl rfl lay_X7 tyX7_ok nmX7 qf_X7_21 rfl rfl rfl rfl rfl ?_
  refine gb_aload_n C dX7_init_36 rfl rfl ?_
  refine gb_bipush (v := nI 60) C dX7_init_37 (by decide) ?_
  refine gd_newa (ty := .int) (t := 0) (N := 60) (a0 := (60, .inl (fun _ => 0))) C rfl (Or.inl rfl) dX7_init_39 qA_int rfl (fun _ => rfl) rfl rfl rfl rfl rfl rfl (Or.inl ⟨rfl, rfl⟩) ?_
  refine gd_putL (CN := RX7) (T := TX7) (N := 9) (f := 4) (ty0 := tyX7) (fs' := [.ref (E.2.2 + 26), .ref (E.2.2 + 27), .ref (E.2.2 + 28), .ref (E.2.2 + 29), .ref (E.2.2 + 30), .null, .int 0, .int 0, .int 0]) C hin dX7_init_41 rfl rfl rfl lay_X7 tyX7_ok nmX7 qf_X7_24 rfl rfl rfl rfl rfl ?_
  refine gb_aload_n C dX7_init_44 rfl rfl ?_
  refine gb_bipush (v := nI 60) C dX7_init_45 (by decide) ?_
  refine gd_newa (ty := .int) (t := 0) (N := 60) (a0 := (60, .inl (fun _ => 0))) C rfl (Or.inl rfl) dX7_init_47 qA_int rfl (fun _ => rfl) rfl rfl rfl rfl rfl rfl (Or.inl ⟨rfl, rfl⟩) ?_
  refine gd_putL (CN := RX7) (T := TX7) (N := 9) (f := 5) (ty0 := tyX7) (fs' := [.ref (E.2.2 + 26), .ref (E.2.2 + 27), .ref (E.2.2 + 28), .ref (E.2.2 + 29), .ref (E.2.2 + 30), .ref (E.2.2 + 31), .int 0, .int 0, .int 0]) C hin dX7_init_49 rfl rfl rfl lay_X7 tyX7_ok nmX7 qf_X7_27 rfl rfl rfl rfl rfl ?_
  refine gb_aload_n C dX7_init_52 rfl rfl ?_
  refine gb_iconst (v := nI 0) C dX7_init_53 (by decide) ?_
  refine gd_putL (CN := RX7) (T := TX7) (N := 9) (f := 6) (ty0 := tyX7) (fs' := [.ref (E.2.2 + 26), .ref (E.2.2 + 27), .ref (E.2.2 + 28), .ref (E.2.2 + 29), .ref (E.2.2 + 30), .ref (E.2.2 + 31), .int (nI 0), .int 0, .int 0]) C hin dX7_init_54 rfl rfl rfl lay_X7 tyX7_ok nmX7 qf_X7_30 rfl rfl rfl rfl rfl ?_
  refine gb_aload_n C dX7_init_57 rfl rfl ?_
  refine gb_iconst (v := nI 0) C dX7_init_58 (by decide) ?_
  refine gd_putL (CN := RX7) (T := TX7) (N := 9) (f := 7) (ty0 := tyX7) (fs' := [.ref (E.2.2 + 26), .ref (E.2.2 + 27), .ref (E.2.2 + 28), .ref (E.2.2 + 29), .ref (E.2.2 + 30), .ref (E.2.2 + 31), .int (nI 0), .int (nI 0), .int 0]) C hin dX7_init_59 rfl rfl rfl lay_X7 tyX7_ok nmX7 qf_X7_34 rfl rfl rfl rfl rfl ?_
  refine gb_aload_n C dX7_init_62 rfl rfl ?_
  refine gb_iconst (v := nI 0) C dX7_init_63 (by decide) ?_
  refine gd_putL (CN := RX7) (T := TX7) (N := 9) (f := 8) (ty0 := tyX7) (fs' := [.ref (E.2.2 + 26), .ref (E.2.2 + 27), .ref (E.2.2 + 28), .ref (E.2.2 + 29), .ref (E.2.2 + 30), .ref (E.2.2 + 31), .int (nI 0), .int (nI 0), .int (nI 0)]) C hin dX7_init_64 rfl rfl rfl lay_X7 tyX7_ok nmX7 qf_X7_37 rfl rfl rfl rfl rfl ?_
  exact gd_ret C R dX7_init_67 rfl rfl (fun _ => rfl)
set_option maxRecDepth 20000 in
set_option maxHeartbeats 1000000 in
theorem mk_45 {E : wEnv} : ∀ D : Dw, D 45 = .inr (7, z_X7) → Mb E yX7_init cX7_init 1 0 6 360 45 D 46 (dF E 45 D) 52 := by
  intro D hD
  refine mb_intro (own := RX7) (by decide) rfl rfl (by decide) (fun Y C hin R => ?_)
  refine gd_start (k := 45) hD ?_
  refine gb_aload_n C dX7_init_0 rfl rfl ?_
  refine gb_objInit C dX7_init_1 qO_X7 qO_inst qO_code rfl ?_
  refine gb_aload_n C dX7_init_4 rfl rfl ?_
  refine gb_bipush (v := nI 60) C dX7_init_5 (by decide) ?_
  refine gd_newa (ty := .int) (t := 0) (N := 60) (a0 := (60, .inl (fun _ => 0))) C rfl (Or.inl rfl) dX7_init_7 qA_int rfl (fun _ => rfl) rfl rfl rfl rfl rfl rfl (Or.inl ⟨rfl, rfl⟩) ?_
  refine gd_putL (CN := RX7) (T := TX7) (N := 9) (f := 0) (ty0 := tyX7) (fs' := [.ref (E.2.2 + 46), .null, .null, .null, .null, .null, .int 0, .int 0, .int 0]) C hin dX7_init_9 rfl rfl rfl lay_X7 tyX7_ok nmX7 qf_X7_9 rfl rfl rfl rfl rfl ?_
  refine gb_aload_n C dX7_init_12 rfl rfl ?_
  refine gb_bipush (v := nI 60) C dX7_init_13 (by decide) ?_
  refine gd_newa (ty := .int) (t := 0) (N := 60) (a0 := (60, .inl (fun _ => 0))) C rfl (Or.inl rfl) dX7_init_15 qA_int rfl (fun _ => rfl) rfl rfl rfl rfl rfl rfl (Or.inl ⟨rfl, rfl⟩) ?_
  refine gd_putL (CN := RX7) (T := TX7) (N := 9) (f := 1) (ty0 := tyX7) (fs' := [.ref (E.2.2 + 46), .ref (E.2.2 + 47), .null, .null, .null, .null, .int 0, .int 0, .int 0]) C hin dX7_init_17 rfl rfl rfl lay_X7 tyX7_ok nmX7 qf_X7_15 rfl rfl rfl rfl rfl ?_
  refine gb_aload_n C dX7_init_20 rfl rfl ?_
  refine gb_bipush (v := nI 60) C dX7_init_21 (by decide) ?_
  refine gd_newa (ty := .int) (t := 0) (N := 60) (a0 := (60, .inl (fun _ => 0))) C rfl (Or.inl rfl) dX7_init_23 qA_int rfl (fun _ => rfl) rfl rfl rfl rfl rfl rfl (Or.inl ⟨rfl, rfl⟩) ?_
  refine gd_putL (CN := RX7) (T := TX7) (N := 9) (f := 2) (ty0 := tyX7) (fs' := [.ref (E.2.2 + 46), .ref (E.2.2 + 47), .ref (E.2.2 + 48), .null, .null, .null, .int 0, .int 0, .int 0]) C hin dX7_init_25 rfl rfl rfl lay_X7 tyX7_ok nmX7 qf_X7_18 rfl rfl rfl rfl rfl ?_
  refine gb_aload_n C dX7_init_28 rfl rfl ?_
  refine gb_bipush (v := nI 60) C dX7_init_29 (by decide) ?_
  refine gd_newa (ty := .int) (t := 0) (N := 60) (a0 := (60, .inl (fun _ => 0))) C rfl (Or.inl rfl) dX7_init_31 qA_int rfl (fun _ => rfl) rfl rfl rfl rfl rfl rfl (Or.inl ⟨rfl, rfl⟩) ?_
  refine gd_putL (CN := RX7) (T := TX7) (N := 9) (f := 3) (ty0 := tyX7) (fs' := [.ref (E.2.2 + 46), .ref (E.2.2 + 47), .ref (E.2.2 + 48), .ref (E.2.2 + 49), .null, .null, .int 0, .int 0, .int 0]) C hin dX7_init_33 rfl rfl rfl lay_X7 tyX7_ok nmX7 qf_X7_21 rfl rfl rfl rfl rfl ?_
  refine gb_aload_n C dX7_init_36 rfl rfl ?_
  refine gb_bipush (v := nI 60) C dX7_init_37 (by decide) ?_
  refine gd_newa (ty := .int) (t := 0) (N := 60) (a0 := (60, .inl (fun _ => 0))) C rfl (Or.inl rfl) dX7_init_39 qA_int rfl (fun _ => rfl) rfl rfl rfl rfl rfl rfl (Or.inl ⟨rfl, rfl⟩) ?_
  refine gd_putL (CN := RX7) (T := TX7) (N := 9) (f := 4) (ty0 := tyX7) (fs' := [.ref (E.2.2 + 46), .ref (E.2.2 + 47), .ref (E.2.2 + 48), .ref (E.2.2 + 49), .ref (E.2.2 + 50), .null, .int 0, .int 0, .int 0]) C hin dX7_init_41 rfl rfl rfl lay_X7 tyX7_ok nmX7 qf_X7_24 rfl rfl rfl rfl rfl ?_
  refine gb_aload_n C dX7_init_44 rfl rfl ?_
  refine gb_bipush (v := nI 60) C dX7_init_45 (by decide) ?_
  refine gd_newa (ty := .int) (t := 0) (N := 60) (a0 := (60, .inl (fun _ => 0))) C rfl (Or.inl rfl) dX7_init_47 qA_int rfl (fun _ => rfl) rfl rfl rfl rfl rfl rfl (Or.inl ⟨rfl, rfl⟩) ?_
  refine gd_putL (CN := RX7) (T := TX7) (N := 9) (f := 5) (ty0 := tyX7) (fs' := [.ref (E.2.2 + 46), .ref (E.2.2 + 47), .ref (E.2.2 + 48), .ref (E.2.2 + 49), .ref (E.2.2 + 50), .ref (E.2.2 + 51), .int 0, .int 0, .int 0]) C hin dX7_init_49 rfl rfl rfl lay_X7 tyX7_ok nmX7 qf_X7_27 rfl rfl rfl rfl rfl ?_
  refine gb_aload_n C dX7_init_52 rfl rfl ?_
  refine gb_iconst (v := nI 0) C dX7_init_53 (by decide) ?_
  refine gd_putL (CN := RX7) (T := TX7) (N := 9) (f := 6) (ty0 := tyX7) (fs' := [.ref (E.2.2 + 46), .ref (E.2.2 + 47), .ref (E.2.2 + 48), .ref (E.2.2 + 49), .ref (E.2.2 + 50), .ref (E.2.2 + 51), .int (nI 0), .int 0, .int 0]) C hin dX7_init_54 rfl rfl rfl lay_X7 tyX7_ok nmX7 qf_X7_30 rfl rfl rfl rfl rfl ?_
  refine gb_aload_n C dX7_init_57 rfl rfl ?_
  refine gb_iconst (v := nI 0) C dX7_init_58 (by decide) ?_
  refine gd_putL (CN := RX7) (T := TX7) (N := 9) (f := 7) (ty0 := tyX7) (fs' := [.ref (E.2.2 + 46), .ref (E.2.2 + 47), .ref (E.2.2 + 48), .ref (E.2.2 + 49), .ref (E.2.2 + 50), .ref (E.2.2 + 51), .int (nI 0), .int (nI 0), .int 0]) C hin dX7_init_59 rfl rfl rfl lay_X7 tyX7_ok nmX7 qf_X7_34 rfl rfl rfl rfl rfl ?_
  refine gb_aload_n C dX7_init_62 rfl rfl ?_
  refine gb_iconst (v := nI 0) C dX7_init_63 (by decide) ?_
  refine gd_putL (CN := RX7) (T := TX7) (N := 9) (f := 8) (ty0 := tyX7) (fs' := [.ref (E.2.2 + 46), .ref (E.2.2 + 47), .ref (E.2.2 + 48), .ref (E.2.2 + 49), .ref (E.2.2 + 50), .ref (E.2.2 + 51), .int (nI 0), .int (nI 0), .int (nI 0)]) C hin dX7_init_64 rfl rfl rfl lay_X7 tyX7_ok nmX7 qf_X7_37 rfl rfl rfl rfl rfl ?_
  exact gd_ret C R dX7_init_67 rfl rfl (fun _ => rfl)
set_option maxRecDepth 20000 in
set_option maxHeartbeats 1000000 in
theorem mk_104 {E : wEnv} : ∀ D : Dw, D 104 = .inr (7, z_X7) → Mb E yX7_init cX7_init 1 0 6 360 104 D 105 (dF E 104 D) 111 := by
  intro D hD
  refine mb_intro (own := RX7) (by decide) rfl rfl (by decide) (fun Y C hin R => ?_)
  refine gd_start (k := 104) hD ?_
  refine gb_aload_n C dX7_init_0 rfl rfl ?_
  refine gb_objInit C dX7_init_1 qO_X7 qO_inst qO_code rfl ?_
  refine gb_aload_n C dX7_init_4 rfl rfl ?_
  refine gb_bipush (v := nI 60) C dX7_init_5 (by decide) ?_
  refine gd_newa (ty := .int) (t := 0) (N := 60) (a0 := (60, .inl (fun _ => 0))) C rfl (Or.inl rfl) dX7_init_7 qA_int rfl (fun _ => rfl) rfl rfl rfl rfl rfl rfl (Or.inl ⟨rfl, rfl⟩) ?_
  refine gd_putL (CN := RX7) (T := TX7) (N := 9) (f := 0) (ty0 := tyX7) (fs' := [.ref (E.2.2 + 105), .null, .null, .null, .null, .null, .int 0, .int 0, .int 0]) C hin dX7_init_9 rfl rfl rfl lay_X7 tyX7_ok nmX7 qf_X7_9 rfl rfl rfl rfl rfl ?_
  refine gb_aload_n C dX7_init_12 rfl rfl ?_
  refine gb_bipush (v := nI 60) C dX7_init_13 (by decide) ?_
  refine gd_newa (ty := .int) (t := 0) (N := 60) (a0 := (60, .inl (fun _ => 0))) C rfl (Or.inl rfl) dX7_init_15 qA_int rfl (fun _ => rfl) rfl rfl rfl rfl rfl rfl (Or.inl ⟨rfl, rfl⟩) ?_
  refine gd_putL (CN := RX7) (T := TX7) (N := 9) (f := 1) (ty0 := tyX7) (fs' := [.ref (E.2.2 + 105), .ref (E.2.2 + 106), .null, .null, .null, .null, .int 0, .int 0, .int 0]) C hin dX7_init_17 rfl rfl rfl lay_X7 tyX7_ok nmX7 qf_X7_15 rfl rfl rfl rfl rfl ?_
  refine gb_aload_n C dX7_init_20 rfl rfl ?_
  refine gb_bipush (v := nI 60) C dX7_init_21 (by decide) ?_
  refine gd_newa (ty := .int) (t := 0) (N := 60) (a0 := (60, .inl (fun _ => 0))) C rfl (Or.inl rfl) dX7_init_23 qA_int rfl (fun _ => rfl) rfl rfl rfl rfl rfl rfl (Or.inl ⟨rfl, rfl⟩) ?_
  refine gd_putL (CN := RX7) (T := TX7) (N := 9) (f := 2) (ty0 := tyX7) (fs' := [.ref (E.2.2 + 105), .ref (E.2.2 + 106), .ref (E.2.2 + 107), .null, .null, .null, .int 0, .int 0, .int 0]) C hin dX7_init_25 rfl rfl rfl lay_X7 tyX7_ok nmX7 qf_X7_18 rfl rfl rfl rfl rfl ?_
  refine gb_aload_n C dX7_init_28 rfl rfl ?_
  refine gb_bipush (v := nI 60) C dX7_init_29 (by decide) ?_
  refine gd_newa (ty := .int) (t := 0) (N := 60) (a0 := (60, .inl (fun _ => 0))) C rfl (Or.inl rfl) dX7_init_31 qA_int rfl (fun _ => rfl) rfl rfl rfl rfl rfl rfl (Or.inl ⟨rfl, rfl⟩) ?_
  refine gd_putL (CN := RX7) (T := TX7) (N := 9) (f := 3) (ty0 := tyX7) (fs' := [.ref (E.2.2 + 105), .ref (E.2.2 + 106), .ref (E.2.2 + 107), .ref (E.2.2 + 108), .null, .null, .int 0, .int 0, .int 0]) C hin dX7_init_33 rfl rfl rfl lay_X7 tyX7_ok nmX7 qf_X7_21 rfl rfl rfl rfl rfl ?_
  refine gb_aload_n C dX7_init_36 rfl rfl ?_
  refine gb_bipush (v := nI 60) C dX7_init_37 (by decide) ?_
  refine gd_newa (ty := .int) (t := 0) (N := 60) (a0 := (60, .inl (fun _ => 0))) C rfl (Or.inl rfl) dX7_init_39 qA_int rfl (fun _ => rfl) rfl rfl rfl rfl rfl rfl (Or.inl ⟨rfl, rfl⟩) ?_
  refine gd_putL (CN := RX7) (T := TX7) (N := 9) (f := 4) (ty0 := tyX7) (fs' := [.ref (E.2.2 + 105), .ref (E.2.2 + 106), .ref (E.2.2 + 107), .ref (E.2.2 + 108), .ref (E.2.2 + 109), .null, .int 0, .int 0, .int 0]) C hin dX7_init_41 rfl rfl rfl lay_X7 tyX7_ok nmX7 qf_X7_24 rfl rfl rfl rfl rfl ?_
  refine gb_aload_n C dX7_init_44 rfl rfl ?_
  refine gb_bipush (v := nI 60) C dX7_init_45 (by decide) ?_
  refine gd_newa (ty := .int) (t := 0) (N := 60) (a0 := (60, .inl (fun _ => 0))) C rfl (Or.inl rfl) dX7_init_47 qA_int rfl (fun _ => rfl) rfl rfl rfl rfl rfl rfl (Or.inl ⟨rfl, rfl⟩) ?_
  refine gd_putL (CN := RX7) (T := TX7) (N := 9) (f := 5) (ty0 := tyX7) (fs' := [.ref (E.2.2 + 105), .ref (E.2.2 + 106), .ref (E.2.2 + 107), .ref (E.2.2 + 108), .ref (E.2.2 + 109), .ref (E.2.2 + 110), .int 0, .int 0, .int 0]) C hin dX7_init_49 rfl rfl rfl lay_X7 tyX7_ok nmX7 qf_X7_27 rfl rfl rfl rfl rfl ?_
  refine gb_aload_n C dX7_init_52 rfl rfl ?_
  refine gb_iconst (v := nI 0) C dX7_init_53 (by decide) ?_
  refine gd_putL (CN := RX7) (T := TX7) (N := 9) (f := 6) (ty0 := tyX7) (fs' := [.ref (E.2.2 + 105), .ref (E.2.2 + 106), .ref (E.2.2 + 107), .ref (E.2.2 + 108), .ref (E.2.2 + 109), .ref (E.2.2 + 110), .int (nI 0), .int 0, .int 0]) C hin dX7_init_54 rfl rfl rfl lay_X7 tyX7_ok nmX7 qf_X7_30 rfl rfl rfl rfl rfl ?_
  refine gb_aload_n C dX7_init_57 rfl rfl ?_
  refine gb_iconst (v := nI 0) C dX7_init_58 (by decide) ?_
  refine gd_putL (CN := RX7) (T := TX7) (N := 9) (f := 7) (ty0 := tyX7) (fs' := [.ref (E.2.2 + 105), .ref (E.2.2 + 106), .ref (E.2.2 + 107), .ref (E.2.2 + 108), .ref (E.2.2 + 109), .ref (E.2.2 + 110), .int (nI 0), .int (nI 0), .int 0]) C hin dX7_init_59 rfl rfl rfl lay_X7 tyX7_ok nmX7 qf_X7_34 rfl rfl rfl rfl rfl ?_
  refine gb_aload_n C dX7_init_62 rfl rfl ?_
  refine gb_iconst (v := nI 0) C dX7_init_63 (by decide) ?_
  refine gd_putL (CN := RX7) (T := TX7) (N := 9) (f := 8) (ty0 := tyX7) (fs' := [.ref (E.2.2 + 105), .ref (E.2.2 + 106), .ref (E.2.2 + 107), .ref (E.2.2 + 108), .ref (E.2.2 + 109), .ref (E.2.2 + 110), .int (nI 0), .int (nI 0), .int (nI 0)]) C hin dX7_init_64 rfl rfl rfl lay_X7 tyX7_ok nmX7 qf_X7_37 rfl rfl rfl rfl rfl ?_
  exact gd_ret C R dX7_init_67 rfl rfl (fun _ => rfl)
set_option maxRecDepth 20000 in
set_option maxHeartbeats 1000000 in
theorem mk_127 {E : wEnv} : ∀ D : Dw, D 127 = .inr (7, z_X7) → Mb E yX7_init cX7_init 1 0 6 360 127 D 128 (dF E 127 D) 134 := by
  intro D hD
  refine mb_intro (own := RX7) (by decide) rfl rfl (by decide) (fun Y C hin R => ?_)
  refine gd_start (k := 127) hD ?_
  refine gb_aload_n C dX7_init_0 rfl rfl ?_
  refine gb_objInit C dX7_init_1 qO_X7 qO_inst qO_code rfl ?_
  refine gb_aload_n C dX7_init_4 rfl rfl ?_
  refine gb_bipush (v := nI 60) C dX7_init_5 (by decide) ?_
  refine gd_newa (ty := .int) (t := 0) (N := 60) (a0 := (60, .inl (fun _ => 0))) C rfl (Or.inl rfl) dX7_init_7 qA_int rfl (fun _ => rfl) rfl rfl rfl rfl rfl rfl (Or.inl ⟨rfl, rfl⟩) ?_
  refine gd_putL (CN := RX7) (T := TX7) (N := 9) (f := 0) (ty0 := tyX7) (fs' := [.ref (E.2.2 + 128), .null, .null, .null, .null, .null, .int 0, .int 0, .int 0]) C hin dX7_init_9 rfl rfl rfl lay_X7 tyX7_ok nmX7 qf_X7_9 rfl rfl rfl rfl rfl ?_
  refine gb_aload_n C dX7_init_12 rfl rfl ?_
  refine gb_bipush (v := nI 60) C dX7_init_13 (by decide) ?_
  refine gd_newa (ty := .int) (t := 0) (N := 60) (a0 := (60, .inl (fun _ => 0))) C rfl (Or.inl rfl) dX7_init_15 qA_int rfl (fun _ => rfl) rfl rfl rfl rfl rfl rfl (Or.inl ⟨rfl, rfl⟩) ?_
  refine gd_putL (CN := RX7) (T := TX7) (N := 9) (f := 1) (ty0 := tyX7) (fs' := [.ref (E.2.2 + 128), .ref (E.2.2 + 129), .null, .null, .null, .null, .int 0, .int 0, .int 0]) C hin dX7_init_17 rfl rfl rfl lay_X7 tyX7_ok nmX7 qf_X7_15 rfl rfl rfl rfl rfl ?_
  refine gb_aload_n C dX7_init_20 rfl rfl ?_
  refine gb_bipush (v := nI 60) C dX7_init_21 (by decide) ?_
  refine gd_newa (ty := .int) (t := 0) (N := 60) (a0 := (60, .inl (fun _ => 0))) C rfl (Or.inl rfl) dX7_init_23 qA_int rfl (fun _ => rfl) rfl rfl rfl rfl rfl rfl (Or.inl ⟨rfl, rfl⟩) ?_
  refine gd_putL (CN := RX7) (T := TX7) (N := 9) (f := 2) (ty0 := tyX7) (fs' := [.ref (E.2.2 + 128), .ref (E.2.2 + 129), .ref (E.2.2 + 130), .null, .null, .null, .int 0, .int 0, .int 0]) C hin dX7_init_25 rfl rfl rfl lay_X7 tyX7_ok nmX7 qf_X7_18 rfl rfl rfl rfl rfl ?_
  refine gb_aload_n C dX7_init_28 rfl rfl ?_
  refine gb_bipush (v := nI 60) C dX7_init_29 (by decide) ?_
  refine gd_newa (ty := .int) (t := 0) (N := 60) (a0 := (60, .inl (fun _ => 0))) C rfl (Or.inl rfl) dX7_init_31 qA_int rfl (fun _ => rfl) rfl rfl rfl rfl rfl rfl (Or.inl ⟨rfl, rfl⟩) ?_
  refine gd_putL (CN := RX7) (T := TX7) (N := 9) (f := 3) (ty0 := tyX7) (fs' := [.ref (E.2.2 + 128), .ref (E.2.2 + 129), .ref (E.2.2 + 130), .ref (E.2.2 + 131), .null, .null, .int 0, .int 0, .int 0]) C hin dX7_init_33 rfl rfl rfl lay_X7 tyX7_ok nmX7 qf_X7_21 rfl rfl rfl rfl rfl ?_
  refine gb_aload_n C dX7_init_36 rfl rfl ?_
  refine gb_bipush (v := nI 60) C dX7_init_37 (by decide) ?_
  refine gd_newa (ty := .int) (t := 0) (N := 60) (a0 := (60, .inl (fun _ => 0))) C rfl (Or.inl rfl) dX7_init_39 qA_int rfl (fun _ => rfl) rfl rfl rfl rfl rfl rfl (Or.inl ⟨rfl, rfl⟩) ?_
  refine gd_putL (CN := RX7) (T := TX7) (N := 9) (f := 4) (ty0 := tyX7) (fs' := [.ref (E.2.2 + 128), .ref (E.2.2 + 129), .ref (E.2.2 + 130), .ref (E.2.2 + 131), .ref (E.2.2 + 132), .null, .int 0, .int 0, .int 0]) C hin dX7_init_41 rfl rfl rfl lay_X7 tyX7_ok nmX7 qf_X7_24 rfl rfl rfl rfl rfl ?_
  refine gb_aload_n C dX7_init_44 rfl rfl ?_
  refine gb_bipush (v := nI 60) C dX7_init_45 (by decide) ?_
  refine gd_newa (ty := .int) (t := 0) (N := 60) (a0 := (60, .inl (fun _ => 0))) C rfl (Or.inl rfl) dX7_init_47 qA_int rfl (fun _ => rfl) rfl rfl rfl rfl rfl rfl (Or.inl ⟨rfl, rfl⟩) ?_
  refine gd_putL (CN := RX7) (T := TX7) (N := 9) (f := 5) (ty0 := tyX7) (fs' := [.ref (E.2.2 + 128), .ref (E.2.2 + 129), .ref (E.2.2 + 130), .ref (E.2.2 + 131), .ref (E.2.2 + 132), .ref (E.2.2 + 133), .int 0, .int 0, .int 0]) C hin dX7_init_49 rfl rfl rfl lay_X7 tyX7_ok nmX7 qf_X7_27 rfl rfl rfl rfl rfl ?_
  refine gb_aload_n C dX7_init_52 rfl rfl ?_
  refine gb_iconst (v := nI 0) C dX7_init_53 (by decide) ?_
  refine gd_putL (CN := RX7) (T := TX7) (N := 9) (f := 6) (ty0 := tyX7) (fs' := [.ref (E.2.2 + 128), .ref (E.2.2 + 129), .ref (E.2.2 + 130), .ref (E.2.2 + 131), .ref (E.2.2 + 132), .ref (E.2.2 + 133), .int (nI 0), .int 0, .int 0]) C hin dX7_init_54 rfl rfl rfl lay_X7 tyX7_ok nmX7 qf_X7_30 rfl rfl rfl rfl rfl ?_
  refine gb_aload_n C dX7_init_57 rfl rfl ?_
  refine gb_iconst (v := nI 0) C dX7_init_58 (by decide) ?_
  refine gd_putL (CN := RX7) (T := TX7) (N := 9) (f := 7) (ty0 := tyX7) (fs' := [.ref (E.2.2 + 128), .ref (E.2.2 + 129), .ref (E.2.2 + 130), .ref (E.2.2 + 131), .ref (E.2.2 + 132), .ref (E.2.2 + 133), .int (nI 0), .int (nI 0), .int 0]) C hin dX7_init_59 rfl rfl rfl lay_X7 tyX7_ok nmX7 qf_X7_34 rfl rfl rfl rfl rfl ?_
  refine gb_aload_n C dX7_init_62 rfl rfl ?_
  refine gb_iconst (v := nI 0) C dX7_init_63 (by decide) ?_
  refine gd_putL (CN := RX7) (T := TX7) (N := 9) (f := 8) (ty0 := tyX7) (fs' := [.ref (E.2.2 + 128), .ref (E.2.2 + 129), .ref (E.2.2 + 130), .ref (E.2.2 + 131), .ref (E.2.2 + 132), .ref (E.2.2 + 133), .int (nI 0), .int (nI 0), .int (nI 0)]) C hin dX7_init_64 rfl rfl rfl lay_X7 tyX7_ok nmX7 qf_X7_37 rfl rfl rfl rfl rfl ?_
  exact gd_ret C R dX7_init_67 rfl rfl (fun _ => rfl)
set_option maxRecDepth 20000 in
set_option maxHeartbeats 1000000 in
theorem mk_150 {E : wEnv} : ∀ D : Dw, D 150 = .inr (7, z_X7) → Mb E yX7_init cX7_init 1 0 6 360 150 D 151 (dF E 150 D) 157 := by
  intro D hD
  refine mb_intro (own := RX7) (by decide) rfl rfl (by decide) (fun Y C hin R => ?_)
  refine gd_start (k := 150) hD ?_
  refine gb_aload_n C dX7_init_0 rfl rfl ?_
  refine gb_objInit C dX7_init_1 qO_X7 qO_inst qO_code rfl ?_
  refine gb_aload_n C dX7_init_4 rfl rfl ?_
  refine gb_bipush (v := nI 60) C dX7_init_5 (by decide) ?_
  refine gd_newa (ty := .int) (t := 0) (N := 60) (a0 := (60, .inl (fun _ => 0))) C rfl (Or.inl rfl) dX7_init_7 qA_int rfl (fun _ => rfl) rfl rfl rfl rfl rfl rfl (Or.inl ⟨rfl, rfl⟩) ?_
  refine gd_putL (CN := RX7) (T := TX7) (N := 9) (f := 0) (ty0 := tyX7) (fs' := [.ref (E.2.2 + 151), .null, .null, .null, .null, .null, .int 0, .int 0, .int 0]) C hin dX7_init_9 rfl rfl rfl lay_X7 tyX7_ok nmX7 qf_X7_9 rfl rfl rfl rfl rfl ?_
  refine gb_aload_n C dX7_init_12 rfl rfl ?_
  refine gb_bipush (v := nI 60) C dX7_init_13 (by decide) ?_
  refine gd_newa (ty := .int) (t := 0) (N := 60) (a0 := (60, .inl (fun _ => 0))) C rfl (Or.inl rfl) dX7_init_15 qA_int rfl (fun _ => rfl) rfl rfl rfl rfl rfl rfl (Or.inl ⟨rfl, rfl⟩) ?_
  refine gd_putL (CN := RX7) (T := TX7) (N := 9) (f := 1) (ty0 := tyX7) (fs' := [.ref (E.2.2 + 151), .ref (E.2.2 + 152), .null, .null, .null, .null, .int 0, .int 0, .int 0]) C hin dX7_init_17 rfl rfl rfl lay_X7 tyX7_ok nmX7 qf_X7_15 rfl rfl rfl rfl rfl ?_
  refine gb_aload_n C dX7_init_20 rfl rfl ?_
  refine gb_bipush (v := nI 60) C dX7_init_21 (by decide) ?_
  refine gd_newa (ty := .int) (t := 0) (N := 60) (a0 := (60, .inl (fun _ => 0))) C rfl (Or.inl rfl) dX7_init_23 qA_int rfl (fun _ => rfl) rfl rfl rfl rfl rfl rfl (Or.inl ⟨rfl, rfl⟩) ?_
  refine gd_putL (CN := RX7) (T := TX7) (N := 9) (f := 2) (ty0 := tyX7) (fs' := [.ref (E.2.2 + 151), .ref (E.2.2 + 152), .ref (E.2.2 + 153), .null, .null, .null, .int 0, .int 0, .int 0]) C hin dX7_init_25 rfl rfl rfl lay_X7 tyX7_ok nmX7 qf_X7_18 rfl rfl rfl rfl rfl ?_
  refine gb_aload_n C dX7_init_28 rfl rfl ?_
  refine gb_bipush (v := nI 60) C dX7_init_29 (by decide) ?_
  refine gd_newa (ty := .int) (t := 0) (N := 60) (a0 := (60, .inl (fun _ => 0))) C rfl (Or.inl rfl) dX7_init_31 qA_int rfl (fun _ => rfl) rfl rfl rfl rfl rfl rfl (Or.inl ⟨rfl, rfl⟩) ?_
  refine gd_putL (CN := RX7) (T := TX7) (N := 9) (f := 3) (ty0 := tyX7) (fs' := [.ref (E.2.2 + 151), .ref (E.2.2 + 152), .ref (E.2.2 + 153), .ref (E.2.2 + 154), .null, .null, .int 0, .int 0, .int 0]) C hin dX7_init_33 rfl rfl rfl lay_X7 tyX7_ok nmX7 qf_X7_21 rfl rfl rfl rfl rfl ?_
  refine gb_aload_n C dX7_init_36 rfl rfl ?_
  refine gb_bipush (v := nI 60) C dX7_init_37 (by decide) ?_
  refine gd_newa (ty := .int) (t := 0) (N := 60) (a0 := (60, .inl (fun _ => 0))) C rfl (Or.inl rfl) dX7_init_39 qA_int rfl (fun _ => rfl) rfl rfl rfl rfl rfl rfl (Or.inl ⟨rfl, rfl⟩) ?_
  refine gd_putL (CN := RX7) (T := TX7) (N := 9) (f := 4) (ty0 := tyX7) (fs' := [.ref (E.2.2 + 151), .ref (E.2.2 + 152), .ref (E.2.2 + 153), .ref (E.2.2 + 154), .ref (E.2.2 + 155), .null, .int 0, .int 0, .int 0]) C hin dX7_init_41 rfl rfl rfl lay_X7 tyX7_ok nmX7 qf_X7_24 rfl rfl rfl rfl rfl ?_
  refine gb_aload_n C dX7_init_44 rfl rfl ?_
  refine gb_bipush (v := nI 60) C dX7_init_45 (by decide) ?_
  refine gd_newa (ty := .int) (t := 0) (N := 60) (a0 := (60, .inl (fun _ => 0))) C rfl (Or.inl rfl) dX7_init_47 qA_int rfl (fun _ => rfl) rfl rfl rfl rfl rfl rfl (Or.inl ⟨rfl, rfl⟩) ?_
  refine gd_putL (CN := RX7) (T := TX7) (N := 9) (f := 5) (ty0 := tyX7) (fs' := [.ref (E.2.2 + 151), .ref (E.2.2 + 152), .ref (E.2.2 + 153), .ref (E.2.2 + 154), .ref (E.2.2 + 155), .ref (E.2.2 + 156), .int 0, .int 0, .int 0]) C hin dX7_init_49 rfl rfl rfl lay_X7 tyX7_ok nmX7 qf_X7_27 rfl rfl rfl rfl rfl ?_
  refine gb_aload_n C dX7_init_52 rfl rfl ?_
  refine gb_iconst (v := nI 0) C dX7_init_53 (by decide) ?_
  refine gd_putL (CN := RX7) (T := TX7) (N := 9) (f := 6) (ty0 := tyX7) (fs' := [.ref (E.2.2 + 151), .ref (E.2.2 + 152), .ref (E.2.2 + 153), .ref (E.2.2 + 154), .ref (E.2.2 + 155), .ref (E.2.2 + 156), .int (nI 0), .int 0, .int 0]) C hin dX7_init_54 rfl rfl rfl lay_X7 tyX7_ok nmX7 qf_X7_30 rfl rfl rfl rfl rfl ?_
  refine gb_aload_n C dX7_init_57 rfl rfl ?_
  refine gb_iconst (v := nI 0) C dX7_init_58 (by decide) ?_
  refine gd_putL (CN := RX7) (T := TX7) (N := 9) (f := 7) (ty0 := tyX7) (fs' := [.ref (E.2.2 + 151), .ref (E.2.2 + 152), .ref (E.2.2 + 153), .ref (E.2.2 + 154), .ref (E.2.2 + 155), .ref (E.2.2 + 156), .int (nI 0), .int (nI 0), .int 0]) C hin dX7_init_59 rfl rfl rfl lay_X7 tyX7_ok nmX7 qf_X7_34 rfl rfl rfl rfl rfl ?_
  refine gb_aload_n C dX7_init_62 rfl rfl ?_
  refine gb_iconst (v := nI 0) C dX7_init_63 (by decide) ?_
  refine gd_putL (CN := RX7) (T := TX7) (N := 9) (f := 8) (ty0 := tyX7) (fs' := [.ref (E.2.2 + 151), .ref (E.2.2 + 152), .ref (E.2.2 + 153), .ref (E.2.2 + 154), .ref (E.2.2 + 155), .ref (E.2.2 + 156), .int (nI 0), .int (nI 0), .int (nI 0)]) C hin dX7_init_64 rfl rfl rfl lay_X7 tyX7_ok nmX7 qf_X7_37 rfl rfl rfl rfl rfl ?_
  exact gd_ret C R dX7_init_67 rfl rfl (fun _ => rfl)
set_option maxRecDepth 20000 in
set_option maxHeartbeats 1000000 in
theorem mk_55 {E : wEnv} : ∀ D : Dw, D 55 = .inr (2, z_X2) → Mb E yX2_init cX2_init 1 0 0 0 55 D 56 (dF E 55 D) 56 := by
  intro D hD
  refine mb_intro (own := RX2) (by decide) rfl rfl (by decide) (fun Y C hin R => ?_)
  refine gd_start (k := 55) hD ?_
  refine gb_aload_n C dX2_init_0 rfl rfl ?_
  refine gb_objInit C dX2_init_1 qO_X2 qO_inst qO_code rfl ?_
  refine gb_aload_n C dX2_init_4 rfl rfl ?_
  refine gb_iconst (v := nI 0) C dX2_init_5 (by decide) ?_
  refine gd_putL (CN := RX2) (T := TX2) (N := 1) (f := 0) (ty0 := tyX2) (fs' := [.int (nI 0)]) C hin dX2_init_6 rfl rfl rfl lay_X2 tyX2_ok nmX2 qf_X2_9 rfl rfl rfl rfl rfl ?_
  exact gd_ret C R dX2_init_9 rfl rfl (fun _ => rfl)
set_option maxRecDepth 20000 in
set_option maxHeartbeats 1000000 in
theorem mk_56 {E : wEnv} : ∀ D : Dw, D 56 = .inr (8, z_X8) → Mb E yX8_init cX8_init 1 0 1 3 56 D 57 (dF E 56 D) 58 := by
  intro D hD
  refine mb_intro (own := RX8) (by decide) rfl rfl (by decide) (fun Y C hin R => ?_)
  refine gd_start (k := 56) hD ?_
  refine gb_aload_n C dX8_init_0 rfl rfl ?_
  refine gb_objInit C dX8_init_1 qO_X8 qO_inst qO_code rfl ?_
  refine gb_aload_n C dX8_init_4 rfl rfl ?_
  refine gb_iconst (v := nI 3) C dX8_init_5 (by decide) ?_
  refine gd_newa (ty := .int) (t := 0) (N := 3) (a0 := (3, .inl (fun _ => 0))) C rfl (Or.inl rfl) dX8_init_6 qA_int rfl (fun _ => rfl) rfl rfl rfl rfl rfl rfl (Or.inl ⟨rfl, rfl⟩) ?_
  refine gd_putL (CN := RX8) (T := TX8) (N := 2) (f := 0) (ty0 := tyX8) (fs' := [.ref (E.2.2 + 57), .int 0]) C hin dX8_init_8 rfl rfl rfl lay_X8 tyX8_ok nmX8 qf_X8_9 rfl rfl rfl rfl rfl ?_
  refine gb_aload_n C dX8_init_11 rfl rfl ?_
  refine gb_iconst (v := nI 0) C dX8_init_12 (by decide) ?_
  refine gd_putL (CN := RX8) (T := TX8) (N := 2) (f := 1) (ty0 := tyX8) (fs' := [.ref (E.2.2 + 57), .int (nI 0)]) C hin dX8_init_13 rfl rfl rfl lay_X8 tyX8_ok nmX8 qf_X8_15 rfl rfl rfl rfl rfl ?_
  exact gd_ret C R dX8_init_16 rfl rfl (fun _ => rfl)
set_option maxRecDepth 20000 in
set_option maxHeartbeats 1000000 in
theorem mk_84 {E : wEnv} : ∀ D : Dw, D 84 = .inr (4, z_X4) → Mb E yX4_init cX4_init 1 0 1 60 84 D 85 (dF E 84 D) 86 := by
  intro D hD
  refine mb_intro (own := RX4) (by decide) rfl rfl (by decide) (fun Y C hin R => ?_)
  refine gd_start (k := 84) hD ?_
  refine gb_aload_n C dX4_init_0 rfl rfl ?_
  refine gb_objInit C dX4_init_1 qO_X4 qO_inst qO_code rfl ?_
  refine gb_aload_n C dX4_init_4 rfl rfl ?_
  refine gb_bipush (v := nI 60) C dX4_init_5 (by decide) ?_
  refine gd_newa (ty := .int) (t := 0) (N := 60) (a0 := (60, .inl (fun _ => 0))) C rfl (Or.inl rfl) dX4_init_7 qA_int rfl (fun _ => rfl) rfl rfl rfl rfl rfl rfl (Or.inl ⟨rfl, rfl⟩) ?_
  refine gd_putL (CN := RX4) (T := TX4) (N := 8) (f := 0) (ty0 := tyX4) (fs' := [.ref (E.2.2 + 85), .int 0, .int 0, .int 0, .int 0, .int 0, .int 0, .int 0]) C hin dX4_init_9 rfl rfl rfl lay_X4 tyX4_ok nmX4 qf_X4_9 rfl rfl rfl rfl rfl ?_
  refine gb_aload_n C dX4_init_12 rfl rfl ?_
  refine gb_iconst (v := nI 0) C dX4_init_13 (by decide) ?_
  refine gd_putL (CN := RX4) (T := TX4) (N := 8) (f := 1) (ty0 := tyX4) (fs' := [.ref (E.2.2 + 85), .int (nI 0), .int 0, .int 0, .int 0, .int 0, .int 0, .int 0]) C hin dX4_init_14 rfl rfl rfl lay_X4 tyX4_ok nmX4 qf_X4_15 rfl rfl rfl rfl rfl ?_
  refine gb_aload_n C dX4_init_17 rfl rfl ?_
  refine gb_iconst (v := nI 0) C dX4_init_18 (by decide) ?_
  refine gd_putL (CN := RX4) (T := TX4) (N := 8) (f := 2) (ty0 := tyX4) (fs' := [.ref (E.2.2 + 85), .int (nI 0), .int (nI 0), .int 0, .int 0, .int 0, .int 0, .int 0]) C hin dX4_init_19 rfl rfl rfl lay_X4 tyX4_ok nmX4 qf_X4_19 rfl rfl rfl rfl rfl ?_
  refine gb_aload_n C dX4_init_22 rfl rfl ?_
  refine gb_iconst (v := nI 0) C dX4_init_23 (by decide) ?_
  refine gd_putL (CN := RX4) (T := TX4) (N := 8) (f := 3) (ty0 := tyX4) (fs' := [.ref (E.2.2 + 85), .int (nI 0), .int (nI 0), .int (nI 0), .int 0, .int 0, .int 0, .int 0]) C hin dX4_init_24 rfl rfl rfl lay_X4 tyX4_ok nmX4 qf_X4_22 rfl rfl rfl rfl rfl ?_
  refine gb_aload_n C dX4_init_27 rfl rfl ?_
  refine gb_iconst (v := nI 0) C dX4_init_28 (by decide) ?_
  refine gd_putL (CN := RX4) (T := TX4) (N := 8) (f := 4) (ty0 := tyX4) (fs' := [.ref (E.2.2 + 85), .int (nI 0), .int (nI 0), .int (nI 0), .int (nI 0), .int 0, .int 0, .int 0]) C hin dX4_init_29 rfl rfl rfl lay_X4 tyX4_ok nmX4 qf_X4_25 rfl rfl rfl rfl rfl ?_
  refine gb_aload_n C dX4_init_32 rfl rfl ?_
  refine gb_iconst (v := nI 0) C dX4_init_33 (by decide) ?_
  refine gd_putL (CN := RX4) (T := TX4) (N := 8) (f := 5) (ty0 := tyX4) (fs' := [.ref (E.2.2 + 85), .int (nI 0), .int (nI 0), .int (nI 0), .int (nI 0), .int (nI 0), .int 0, .int 0]) C hin dX4_init_34 rfl rfl rfl lay_X4 tyX4_ok nmX4 qf_X4_28 rfl rfl rfl rfl rfl ?_
  refine gb_aload_n C dX4_init_37 rfl rfl ?_
  refine gb_iconst (v := nI 0) C dX4_init_38 (by decide) ?_
  refine gd_putL (CN := RX4) (T := TX4) (N := 8) (f := 6) (ty0 := tyX4) (fs' := [.ref (E.2.2 + 85), .int (nI 0), .int (nI 0), .int (nI 0), .int (nI 0), .int (nI 0), .int (nI 0), .int 0]) C hin dX4_init_39 rfl rfl rfl lay_X4 tyX4_ok nmX4 qf_X4_31 rfl rfl rfl rfl rfl ?_
  refine gb_aload_n C dX4_init_42 rfl rfl ?_
  refine gb_iconst (v := nI 0) C dX4_init_43 (by decide) ?_
  refine gd_putL (CN := RX4) (T := TX4) (N := 8) (f := 7) (ty0 := tyX4) (fs' := [.ref (E.2.2 + 85), .int (nI 0), .int (nI 0), .int (nI 0), .int (nI 0), .int (nI 0), .int (nI 0), .int (nI 0)]) C hin dX4_init_44 rfl rfl rfl lay_X4 tyX4_ok nmX4 qf_X4_34 rfl rfl rfl rfl rfl ?_
  exact gd_ret C R dX4_init_47 rfl rfl (fun _ => rfl)
set_option maxRecDepth 20000 in
set_option maxHeartbeats 1000000 in
theorem mk_86 {E : wEnv} : ∀ D : Dw, D 86 = .inr (4, z_X4) → Mb E yX4_init cX4_init 1 0 1 60 86 D 87 (dF E 86 D) 88 := by
  intro D hD
  refine mb_intro (own := RX4) (by decide) rfl rfl (by decide) (fun Y C hin R => ?_)
  refine gd_start (k := 86) hD ?_
  refine gb_aload_n C dX4_init_0 rfl rfl ?_
  refine gb_objInit C dX4_init_1 qO_X4 qO_inst qO_code rfl ?_
  refine gb_aload_n C dX4_init_4 rfl rfl ?_
  refine gb_bipush (v := nI 60) C dX4_init_5 (by decide) ?_
  refine gd_newa (ty := .int) (t := 0) (N := 60) (a0 := (60, .inl (fun _ => 0))) C rfl (Or.inl rfl) dX4_init_7 qA_int rfl (fun _ => rfl) rfl rfl rfl rfl rfl rfl (Or.inl ⟨rfl, rfl⟩) ?_
  refine gd_putL (CN := RX4) (T := TX4) (N := 8) (f := 0) (ty0 := tyX4) (fs' := [.ref (E.2.2 + 87), .int 0, .int 0, .int 0, .int 0, .int 0, .int 0, .int 0]) C hin dX4_init_9 rfl rfl rfl lay_X4 tyX4_ok nmX4 qf_X4_9 rfl rfl rfl rfl rfl ?_
  refine gb_aload_n C dX4_init_12 rfl rfl ?_
  refine gb_iconst (v := nI 0) C dX4_init_13 (by decide) ?_
  refine gd_putL (CN := RX4) (T := TX4) (N := 8) (f := 1) (ty0 := tyX4) (fs' := [.ref (E.2.2 + 87), .int (nI 0), .int 0, .int 0, .int 0, .int 0, .int 0, .int 0]) C hin dX4_init_14 rfl rfl rfl lay_X4 tyX4_ok nmX4 qf_X4_15 rfl rfl rfl rfl rfl ?_
  refine gb_aload_n C dX4_init_17 rfl rfl ?_
  refine gb_iconst (v := nI 0) C dX4_init_18 (by decide) ?_
  refine gd_putL (CN := RX4) (T := TX4) (N := 8) (f := 2) (ty0 := tyX4) (fs' := [.ref (E.2.2 + 87), .int (nI 0), .int (nI 0), .int 0, .int 0, .int 0, .int 0, .int 0]) C hin dX4_init_19 rfl rfl rfl lay_X4 tyX4_ok nmX4 qf_X4_19 rfl rfl rfl rfl rfl ?_
  refine gb_aload_n C dX4_init_22 rfl rfl ?_
  refine gb_iconst (v := nI 0) C dX4_init_23 (by decide) ?_
  refine gd_putL (CN := RX4) (T := TX4) (N := 8) (f := 3) (ty0 := tyX4) (fs' := [.ref (E.2.2 + 87), .int (nI 0), .int (nI 0), .int (nI 0), .int 0, .int 0, .int 0, .int 0]) C hin dX4_init_24 rfl rfl rfl lay_X4 tyX4_ok nmX4 qf_X4_22 rfl rfl rfl rfl rfl ?_
  refine gb_aload_n C dX4_init_27 rfl rfl ?_
  refine gb_iconst (v := nI 0) C dX4_init_28 (by decide) ?_
  refine gd_putL (CN := RX4) (T := TX4) (N := 8) (f := 4) (ty0 := tyX4) (fs' := [.ref (E.2.2 + 87), .int (nI 0), .int (nI 0), .int (nI 0), .int (nI 0), .int 0, .int 0, .int 0]) C hin dX4_init_29 rfl rfl rfl lay_X4 tyX4_ok nmX4 qf_X4_25 rfl rfl rfl rfl rfl ?_
  refine gb_aload_n C dX4_init_32 rfl rfl ?_
  refine gb_iconst (v := nI 0) C dX4_init_33 (by decide) ?_
  refine gd_putL (CN := RX4) (T := TX4) (N := 8) (f := 5) (ty0 := tyX4) (fs' := [.ref (E.2.2 + 87), .int (nI 0), .int (nI 0), .int (nI 0), .int (nI 0), .int (nI 0), .int 0, .int 0]) C hin dX4_init_34 rfl rfl rfl lay_X4 tyX4_ok nmX4 qf_X4_28 rfl rfl rfl rfl rfl ?_
  refine gb_aload_n C dX4_init_37 rfl rfl ?_
  refine gb_iconst (v := nI 0) C dX4_init_38 (by decide) ?_
  refine gd_putL (CN := RX4) (T := TX4) (N := 8) (f := 6) (ty0 := tyX4) (fs' := [.ref (E.2.2 + 87), .int (nI 0), .int (nI 0), .int (nI 0), .int (nI 0), .int (nI 0), .int (nI 0), .int 0]) C hin dX4_init_39 rfl rfl rfl lay_X4 tyX4_ok nmX4 qf_X4_31 rfl rfl rfl rfl rfl ?_
  refine gb_aload_n C dX4_init_42 rfl rfl ?_
  refine gb_iconst (v := nI 0) C dX4_init_43 (by decide) ?_
  refine gd_putL (CN := RX4) (T := TX4) (N := 8) (f := 7) (ty0 := tyX4) (fs' := [.ref (E.2.2 + 87), .int (nI 0), .int (nI 0), .int (nI 0), .int (nI 0), .int (nI 0), .int (nI 0), .int (nI 0)]) C hin dX4_init_44 rfl rfl rfl lay_X4 tyX4_ok nmX4 qf_X4_34 rfl rfl rfl rfl rfl ?_
  exact gd_ret C R dX4_init_47 rfl rfl (fun _ => rfl)
set_option maxRecDepth 20000 in
set_option maxHeartbeats 1000000 in
theorem mk_9 {E : wEnv} : ∀ D : Dw, D 9 = .inr (9, z_X9) → Mb E yX9_init cX9_init 1 1 22 630 9 D 10 (dF E 9 D) 32 := by
  intro D hD
  refine mb_intro (own := RX9) (by decide) rfl rfl (by decide) (fun Y C hin R => ?_)
  refine gd_start (k := 9) hD ?_
  refine gb_aload_n C dX9_init_0 rfl rfl ?_
  refine gb_objInit C dX9_init_1 qO_X9 qO_inst qO_code rfl ?_
  refine gb_aload_n C dX9_init_4 rfl rfl ?_
  refine gd_makeN (CN := RX1) (T := TX1) (N := 13) (ty := tyX1) (fs2 := z_X1) (ci2 := 1) C dX9_init_5 dX9_init_8 dX9_init_9 lay_X1 tyX1_ok qL_X9_7 qI_X1 ini_X1 rfl zd_X1 mk_10 (by decide) qi_yX1_init ini_X1 qk_yX1_init rfl (by decide +kernel) rfl rfl rfl rfl rfl rfl rfl nX_hi ?_
  refine gd_putL (CN := RX9) (T := TX9) (N := 3) (f := 0) (ty0 := tyX9) (fs' := [.ref (E.2.2 + 10), .null, .null]) C hin dX9_init_12 rfl rfl rfl lay_X9 tyX9_ok nmX9 qf_X9_10 rfl rfl rfl rfl rfl ?_
  refine gb_aload_n C dX9_init_15 rfl rfl ?_
  refine gd_makeN (CN := RX3) (T := TX3) (N := 8) (ty := tyX3) (fs2 := z_X3) (ci2 := 3) C dX9_init_16 dX9_init_19 dX9_init_20 lay_X3 tyX3_ok qL_X9_16 qI_X3 ini_X3 rfl zd_X3 mk_22 (by decide) qi_yX3_init ini_X3 qk_yX3_init rfl (by decide +kernel) rfl rfl rfl rfl rfl rfl rfl nX_hi ?_
  refine gd_putL (CN := RX9) (T := TX9) (N := 3) (f := 1) (ty0 := tyX9) (fs' := [.ref (E.2.2 + 10), .ref (E.2.2 + 22), .null]) C hin dX9_init_23 rfl rfl rfl lay_X9 tyX9_ok nmX9 qf_X9_19 rfl rfl rfl rfl rfl ?_
  refine gb_aload_n C dX9_init_26 rfl rfl ?_
  refine gd_makeN (CN := RX7) (T := TX7) (N := 9) (ty := tyX7) (fs2 := z_X7) (ci2 := 7) C dX9_init_27 dX9_init_30 dX9_init_31 lay_X7 tyX7_ok qL_X9_23 qI_X7 ini_X7 rfl zd_X7 mk_25 (by decide) qi_yX7_init ini_X7 qk_yX7_init rfl (by decide +kernel) rfl rfl rfl rfl rfl rfl rfl nX_hi ?_
  refine gd_putL (CN := RX9) (T := TX9) (N := 3) (f := 2) (ty0 := tyX9) (fs' := [.ref (E.2.2 + 10), .ref (E.2.2 + 22), .ref (E.2.2 + 25)]) C hin dX9_init_34 rfl rfl rfl lay_X9 tyX9_ok nmX9 qf_X9_26 rfl rfl rfl rfl rfl ?_
  exact gd_ret C R dX9_init_37 rfl rfl (fun _ => rfl)
set_option maxRecDepth 20000 in
set_option maxHeartbeats 1000000 in
theorem mk_88 {E : wEnv} : ∀ D : Dw, D 88 = .inr (9, z_X9) → Mb E yX9_init cX9_init 1 1 22 630 88 D 89 (dF E 88 D) 111 := by
  intro D hD
  refine mb_intro (own := RX9) (by decide) rfl rfl (by decide) (fun Y C hin R => ?_)
  refine gd_start (k := 88) hD ?_
  refine gb_aload_n C dX9_init_0 rfl rfl ?_
  refine gb_objInit C dX9_init_1 qO_X9 qO_inst qO_code rfl ?_
  refine gb_aload_n C dX9_init_4 rfl rfl ?_
  refine gd_makeN (CN := RX1) (T := TX1) (N := 13) (ty := tyX1) (fs2 := z_X1) (ci2 := 1) C dX9_init_5 dX9_init_8 dX9_init_9 lay_X1 tyX1_ok qL_X9_7 qI_X1 ini_X1 rfl zd_X1 mk_89 (by decide) qi_yX1_init ini_X1 qk_yX1_init rfl (by decide +kernel) rfl rfl rfl rfl rfl rfl rfl nX_hi ?_
  refine gd_putL (CN := RX9) (T := TX9) (N := 3) (f := 0) (ty0 := tyX9) (fs' := [.ref (E.2.2 + 89), .null, .null]) C hin dX9_init_12 rfl rfl rfl lay_X9 tyX9_ok nmX9 qf_X9_10 rfl rfl rfl rfl rfl ?_
  refine gb_aload_n C dX9_init_15 rfl rfl ?_
  refine gd_makeN (CN := RX3) (T := TX3) (N := 8) (ty := tyX3) (fs2 := z_X3) (ci2 := 3) C dX9_init_16 dX9_init_19 dX9_init_20 lay_X3 tyX3_ok qL_X9_16 qI_X3 ini_X3 rfl zd_X3 mk_101 (by decide) qi_yX3_init ini_X3 qk_yX3_init rfl (by decide +kernel) rfl rfl rfl rfl rfl rfl rfl nX_hi ?_
  refine gd_putL (CN := RX9) (T := TX9) (N := 3) (f := 1) (ty0 := tyX9) (fs' := [.ref (E.2.2 + 89), .ref (E.2.2 + 101), .null]) C hin dX9_init_23 rfl rfl rfl lay_X9 tyX9_ok nmX9 qf_X9_19 rfl rfl rfl rfl rfl ?_
  refine gb_aload_n C dX9_init_26 rfl rfl ?_
  refine gd_makeN (CN := RX7) (T := TX7) (N := 9) (ty := tyX7) (fs2 := z_X7) (ci2 := 7) C dX9_init_27 dX9_init_30 dX9_init_31 lay_X7 tyX7_ok qL_X9_23 qI_X7 ini_X7 rfl zd_X7 mk_104 (by decide) qi_yX7_init ini_X7 qk_yX7_init rfl (by decide +kernel) rfl rfl rfl rfl rfl rfl rfl nX_hi ?_
  refine gd_putL (CN := RX9) (T := TX9) (N := 3) (f := 2) (ty0 := tyX9) (fs' := [.ref (E.2.2 + 89), .ref (E.2.2 + 101), .ref (E.2.2 + 104)]) C hin dX9_init_34 rfl rfl rfl lay_X9 tyX9_ok nmX9 qf_X9_26 rfl rfl rfl rfl rfl ?_
  exact gd_ret C R dX9_init_37 rfl rfl (fun _ => rfl)
set_option maxRecDepth 20000 in
set_option maxHeartbeats 1000000 in
theorem mk_111 {E : wEnv} : ∀ D : Dw, D 111 = .inr (9, z_X9) → Mb E yX9_init cX9_init 1 1 22 630 111 D 112 (dF E 111 D) 134 := by
  intro D hD
  refine mb_intro (own := RX9) (by decide) rfl rfl (by decide) (fun Y C hin R => ?_)
  refine gd_start (k := 111) hD ?_
  refine gb_aload_n C dX9_init_0 rfl rfl ?_
  refine gb_objInit C dX9_init_1 qO_X9 qO_inst qO_code rfl ?_
  refine gb_aload_n C dX9_init_4 rfl rfl ?_
  refine gd_makeN (CN := RX1) (T := TX1) (N := 13) (ty := tyX1) (fs2 := z_X1) (ci2 := 1) C dX9_init_5 dX9_init_8 dX9_init_9 lay_X1 tyX1_ok qL_X9_7 qI_X1 ini_X1 rfl zd_X1 mk_112 (by decide) qi_yX1_init ini_X1 qk_yX1_init rfl (by decide +kernel) rfl rfl rfl rfl rfl rfl rfl nX_hi ?_
  refine gd_putL (CN := RX9) (T := TX9) (N := 3) (f := 0) (ty0 := tyX9) (fs' := [.ref (E.2.2 + 112), .null, .null]) C hin dX9_init_12 rfl rfl rfl lay_X9 tyX9_ok nmX9 qf_X9_10 rfl rfl rfl rfl rfl ?_
  refine gb_aload_n C dX9_init_15 rfl rfl ?_
  refine gd_makeN (CN := RX3) (T := TX3) (N := 8) (ty := tyX3) (fs2 := z_X3) (ci2 := 3) C dX9_init_16 dX9_init_19 dX9_init_20 lay_X3 tyX3_ok qL_X9_16 qI_X3 ini_X3 rfl zd_X3 mk_124 (by decide) qi_yX3_init ini_X3 qk_yX3_init rfl (by decide +kernel) rfl rfl rfl rfl rfl rfl rfl nX_hi ?_
  refine gd_putL (CN := RX9) (T := TX9) (N := 3) (f := 1) (ty0 := tyX9) (fs' := [.ref (E.2.2 + 112), .ref (E.2.2 + 124), .null]) C hin dX9_init_23 rfl rfl rfl lay_X9 tyX9_ok nmX9 qf_X9_19 rfl rfl rfl rfl rfl ?_
  refine gb_aload_n C dX9_init_26 rfl rfl ?_
  refine gd_makeN (CN := RX7) (T := TX7) (N := 9) (ty := tyX7) (fs2 := z_X7) (ci2 := 7) C dX9_init_27 dX9_init_30 dX9_init_31 lay_X7 tyX7_ok qL_X9_23 qI_X7 ini_X7 rfl zd_X7 mk_127 (by decide) qi_yX7_init ini_X7 qk_yX7_init rfl (by decide +kernel) rfl rfl rfl rfl rfl rfl rfl nX_hi ?_
  refine gd_putL (CN := RX9) (T := TX9) (N := 3) (f := 2) (ty0 := tyX9) (fs' := [.ref (E.2.2 + 112), .ref (E.2.2 + 124), .ref (E.2.2 + 127)]) C hin dX9_init_34 rfl rfl rfl lay_X9 tyX9_ok nmX9 qf_X9_26 rfl rfl rfl rfl rfl ?_
  exact gd_ret C R dX9_init_37 rfl rfl (fun _ => rfl)
set_option maxRecDepth 20000 in
set_option maxHeartbeats 1000000 in
theorem mk_134 {E : wEnv} : ∀ D : Dw, D 134 = .inr (9, z_X9) → Mb E yX9_init cX9_init 1 1 22 630 134 D 135 (dF E 134 D) 157 := by
  intro D hD
  refine mb_intro (own := RX9) (by decide) rfl rfl (by decide) (fun Y C hin R => ?_)
  refine gd_start (k := 134) hD ?_
  refine gb_aload_n C dX9_init_0 rfl rfl ?_
  refine gb_objInit C dX9_init_1 qO_X9 qO_inst qO_code rfl ?_
  refine gb_aload_n C dX9_init_4 rfl rfl ?_
  refine gd_makeN (CN := RX1) (T := TX1) (N := 13) (ty := tyX1) (fs2 := z_X1) (ci2 := 1) C dX9_init_5 dX9_init_8 dX9_init_9 lay_X1 tyX1_ok qL_X9_7 qI_X1 ini_X1 rfl zd_X1 mk_135 (by decide) qi_yX1_init ini_X1 qk_yX1_init rfl (by decide +kernel) rfl rfl rfl rfl rfl rfl rfl nX_hi ?_
  refine gd_putL (CN := RX9) (T := TX9) (N := 3) (f := 0) (ty0 := tyX9) (fs' := [.ref (E.2.2 + 135), .null, .null]) C hin dX9_init_12 rfl rfl rfl lay_X9 tyX9_ok nmX9 qf_X9_10 rfl rfl rfl rfl rfl ?_
  refine gb_aload_n C dX9_init_15 rfl rfl ?_
  refine gd_makeN (CN := RX3) (T := TX3) (N := 8) (ty := tyX3) (fs2 := z_X3) (ci2 := 3) C dX9_init_16 dX9_init_19 dX9_init_20 lay_X3 tyX3_ok qL_X9_16 qI_X3 ini_X3 rfl zd_X3 mk_147 (by decide) qi_yX3_init ini_X3 qk_yX3_init rfl (by decide +kernel) rfl rfl rfl rfl rfl rfl rfl nX_hi ?_
  refine gd_putL (CN := RX9) (T := TX9) (N := 3) (f := 1) (ty0 := tyX9) (fs' := [.ref (E.2.2 + 135), .ref (E.2.2 + 147), .null]) C hin dX9_init_23 rfl rfl rfl lay_X9 tyX9_ok nmX9 qf_X9_19 rfl rfl rfl rfl rfl ?_
  refine gb_aload_n C dX9_init_26 rfl rfl ?_
  refine gd_makeN (CN := RX7) (T := TX7) (N := 9) (ty := tyX7) (fs2 := z_X7) (ci2 := 7) C dX9_init_27 dX9_init_30 dX9_init_31 lay_X7 tyX7_ok qL_X9_23 qI_X7 ini_X7 rfl zd_X7 mk_150 (by decide) qi_yX7_init ini_X7 qk_yX7_init rfl (by decide +kernel) rfl rfl rfl rfl rfl rfl rfl nX_hi ?_
  refine gd_putL (CN := RX9) (T := TX9) (N := 3) (f := 2) (ty0 := tyX9) (fs' := [.ref (E.2.2 + 135), .ref (E.2.2 + 147), .ref (E.2.2 + 150)]) C hin dX9_init_34 rfl rfl rfl lay_X9 tyX9_ok nmX9 qf_X9_26 rfl rfl rfl rfl rfl ?_
  exact gd_ret C R dX9_init_37 rfl rfl (fun _ => rfl)
set_option maxRecDepth 20000 in
set_option maxHeartbeats 1000000 in
theorem mk_58 {E : wEnv} : ∀ D : Dw, D 58 = .inr (0, z_X0) → Mb E yX0_init cX0_init 2 1 22 537 58 D 59 (dF E 58 D) 81 := by
  intro D hD
  refine mb_intro (own := RX0) (by decide) rfl rfl (by decide) (fun Y C hin R => ?_)
  refine gd_start (k := 58) hD ?_
  refine gb_aload_n C dX0_init_0 rfl rfl ?_
  refine gb_objInit C dX0_init_1 qO_X0 qO_inst qO_code rfl ?_
  refine gb_aload_n C dX0_init_4 rfl rfl ?_
  refine gb_sipush (v := nI 201) C dX0_init_5 (by decide) ?_
  refine gd_newa (ty := .long) (t := 2) (N := 201) (a0 := (201, .inr (.inl (fun _ => 0)))) C rfl (Or.inr (Or.inr rfl)) dX0_init_8 qA_long rfl (fun _ => rfl) rfl rfl rfl rfl rfl rfl (Or.inl ⟨rfl, rfl⟩) ?_
  refine gd_putL (CN := RX0) (T := TX0) (N := 11) (f := 0) (ty0 := tyX0) (fs' := [.ref (E.2.2 + 59), .null, .null, .null, .null, .null, .null, .int 0, .int 0, .int 0, .int 0]) C hin dX0_init_10 rfl rfl rfl lay_X0 tyX0_ok nmX0 qf_X0_9 rfl rfl rfl rfl rfl ?_
  refine gb_aload_n C dX0_init_13 rfl rfl ?_
  refine gb_sipush (v := nI 201) C dX0_init_14 (by decide) ?_
  refine gd_newa (ty := .long) (t := 2) (N := 201) (a0 := (201, .inr (.inl (fun _ => 0)))) C rfl (Or.inr (Or.inr rfl)) dX0_init_17 qA_long rfl (fun _ => rfl) rfl rfl rfl rfl rfl rfl (Or.inl ⟨rfl, rfl⟩) ?_
  refine gd_putL (CN := RX0) (T := TX0) (N := 11) (f := 1) (ty0 := tyX0) (fs' := [.ref (E.2.2 + 59), .ref (E.2.2 + 60), .null, .null, .null, .null, .null, .int 0, .int 0, .int 0, .int 0]) C hin dX0_init_19 rfl rfl rfl lay_X0 tyX0_ok nmX0 qf_X0_15 rfl rfl rfl rfl rfl ?_
  refine gb_aload_n C dX0_init_22 rfl rfl ?_
  refine gb_iconst (v := nI 5) C dX0_init_23 (by decide) ?_
  refine gd_newq (t := 4) (N := 5) C dX0_init_24 qL_X0_18 C.Z.1.2.1 rfl rfl rfl rfl rfl rfl rfl ?_
  refine gd_putL (CN := RX0) (T := TX0) (N := 11) (f := 2) (ty0 := tyX0) (fs' := [.ref (E.2.2 + 59), .ref (E.2.2 + 60), .ref (E.2.2 + 61), .null, .null, .null, .null, .int 0, .int 0, .int 0, .int 0]) C hin dX0_init_27 rfl rfl rfl lay_X0 tyX0_ok nmX0 qf_X0_20 rfl rfl rfl rfl rfl ?_
  refine gb_aload_n C dX0_init_30 rfl rfl ?_
  refine gb_iconst (v := nI 4) C dX0_init_31 (by decide) ?_
  refine gd_newa (ty := .int) (t := 0) (N := 4) (a0 := (4, .inl (fun _ => 0))) C rfl (Or.inl rfl) dX0_init_32 qA_int rfl (fun _ => rfl) rfl rfl rfl rfl rfl rfl (Or.inl ⟨rfl, rfl⟩) ?_
  refine gd_putL (CN := RX0) (T := TX0) (N := 11) (f := 3) (ty0 := tyX0) (fs' := [.ref (E.2.2 + 59), .ref (E.2.2 + 60), .ref (E.2.2 + 61), .ref (E.2.2 + 62), .null, .null, .null, .int 0, .int 0, .int 0, .int 0]) C hin dX0_init_34 rfl rfl rfl lay_X0 tyX0_ok nmX0 qf_X0_24 rfl rfl rfl rfl rfl ?_
  refine gb_aload_n C dX0_init_37 rfl rfl ?_
  refine gb_bipush (v := nI 6) C dX0_init_38 (by decide) ?_
  refine gd_newa (ty := .int) (t := 0) (N := 6) (a0 := (6, .inl (fun _ => 0))) C rfl (Or.inl rfl) dX0_init_40 qA_int rfl (fun _ => rfl) rfl rfl rfl rfl rfl rfl (Or.inl ⟨rfl, rfl⟩) ?_
  refine gd_putL (CN := RX0) (T := TX0) (N := 11) (f := 4) (ty0 := tyX0) (fs' := [.ref (E.2.2 + 59), .ref (E.2.2 + 60), .ref (E.2.2 + 61), .ref (E.2.2 + 62), .ref (E.2.2 + 63), .null, .null, .int 0, .int 0, .int 0, .int 0]) C hin dX0_init_42 rfl rfl rfl lay_X0 tyX0_ok nmX0 qf_X0_28 rfl rfl rfl rfl rfl ?_
  refine gb_aload_n C dX0_init_45 rfl rfl ?_
  refine gb_iconst (v := nI 4) C dX0_init_46 (by decide) ?_
  refine gd_newa (ty := .int) (t := 0) (N := 4) (a0 := (4, .inl (fun _ => 0))) C rfl (Or.inl rfl) dX0_init_47 qA_int rfl (fun _ => rfl) rfl rfl rfl rfl rfl rfl (Or.inl ⟨rfl, rfl⟩) ?_
  refine gd_putL (CN := RX0) (T := TX0) (N := 11) (f := 5) (ty0 := tyX0) (fs' := [.ref (E.2.2 + 59), .ref (E.2.2 + 60), .ref (E.2.2 + 61), .ref (E.2.2 + 62), .ref (E.2.2 + 63), .ref (E.2.2 + 64), .null, .int 0, .int 0, .int 0, .int 0]) C hin dX0_init_49 rfl rfl rfl lay_X0 tyX0_ok nmX0 qf_X0_31 rfl rfl rfl rfl rfl ?_
  refine gb_aload_n C dX0_init_52 rfl rfl ?_
  refine gb_bipush (v := nI 6) C dX0_init_53 (by decide) ?_
  refine gd_newa (ty := .int) (t := 0) (N := 6) (a0 := (6, .inl (fun _ => 0))) C rfl (Or.inl rfl) dX0_init_55 qA_int rfl (fun _ => rfl) rfl rfl rfl rfl rfl rfl (Or.inl ⟨rfl, rfl⟩) ?_
  refine gd_putL (CN := RX0) (T := TX0) (N := 11) (f := 6) (ty0 := tyX0) (fs' := [.ref (E.2.2 + 59), .ref (E.2.2 + 60), .ref (E.2.2 + 61), .ref (E.2.2 + 62), .ref (E.2.2 + 63), .ref (E.2.2 + 64), .ref (E.2.2 + 65), .int 0, .int 0, .int 0, .int 0]) C hin dX0_init_57 rfl rfl rfl lay_X0 tyX0_ok nmX0 qf_X0_34 rfl rfl rfl rfl rfl ?_
  refine gb_aload_n C dX0_init_60 rfl rfl ?_
  refine gb_iconst (v := nI 0) C dX0_init_61 (by decide) ?_
  refine gd_putL (CN := RX0) (T := TX0) (N := 11) (f := 7) (ty0 := tyX0) (fs' := [.ref (E.2.2 + 59), .ref (E.2.2 + 60), .ref (E.2.2 + 61), .ref (E.2.2 + 62), .ref (E.2.2 + 63), .ref (E.2.2 + 64), .ref (E.2.2 + 65), .int (nI 0), .int 0, .int 0, .int 0]) C hin dX0_init_62 rfl rfl rfl lay_X0 tyX0_ok nmX0 qf_X0_37 rfl rfl rfl rfl rfl ?_
  refine gb_aload_n C dX0_init_65 rfl rfl ?_
  refine gb_iconst (v := -1) C dX0_init_66 (by decide) ?_
  refine gd_putL (CN := RX0) (T := TX0) (N := 11) (f := 8) (ty0 := tyX0) (fs' := [.ref (E.2.2 + 59), .ref (E.2.2 + 60), .ref (E.2.2 + 61), .ref (E.2.2 + 62), .ref (E.2.2 + 63), .ref (E.2.2 + 64), .ref (E.2.2 + 65), .int (nI 0), .int (-1), .int 0, .int 0]) C hin dX0_init_67 rfl rfl rfl lay_X0 tyX0_ok nmX0 qf_X0_41 rfl rfl rfl rfl rfl ?_
  refine gb_aload_n C dX0_init_70 rfl rfl ?_
  refine gb_iconst (v := nI 0) C dX0_init_71 (by decide) ?_
  refine gd_putL (CN := RX0) (T := TX0) (N := 11) (f := 9) (ty0 := tyX0) (fs' := [.ref (E.2.2 + 59), .ref (E.2.2 + 60), .ref (E.2.2 + 61), .ref (E.2.2 + 62), .ref (E.2.2 + 63), .ref (E.2.2 + 64), .ref (E.2.2 + 65), .int (nI 0), .int (-1), .int (nI 0), .int 0]) C hin dX0_init_72 rfl rfl rfl lay_X0 tyX0_ok nmX0 qf_X0_44 rfl rfl rfl rfl rfl ?_
  refine gb_aload_n C dX0_init_75 rfl rfl ?_
  refine gb_iconst (v := nI 0) C dX0_init_76 (by decide) ?_
  refine gd_putL (CN := RX0) (T := TX0) (N := 11) (f := 10) (ty0 := tyX0) (fs' := [.ref (E.2.2 + 59), .ref (E.2.2 + 60), .ref (E.2.2 + 61), .ref (E.2.2 + 62), .ref (E.2.2 + 63), .ref (E.2.2 + 64), .ref (E.2.2 + 65), .int (nI 0), .int (-1), .int (nI 0), .int (nI 0)]) C hin dX0_init_77 rfl rfl rfl lay_X0 tyX0_ok nmX0 qf_X0_47 rfl rfl rfl rfl rfl ?_
  refine gb_iconst (v := nI 0) C dX0_init_80 (by decide) ?_
  refine gb_istore_n C dX0_init_81 rfl rfl ?_
  refine gb_iload_n C dX0_init_82 rfl rfl ?_
  refine gb_iconst (v := nI 4) C dX0_init_83 (by decide) ?_
  refine gb_icmp_gt (tgt := 106) C dX0_init_84 (by decide) (fun h => absurd h (by decide)) (fun _ => ?_)
  refine gb_aload_n C dX0_init_87 rfl rfl ?_
  refine gd_getk (CN := RX0) (T := TX0) (N := 11) (f := 2) C dX0_init_88 rfl rfl rfl lay_X0 qf_X0_20 rfl rfl ?_
  refine gb_iload_n C dX0_init_91 rfl rfl ?_
  refine gd_makeN (CN := RX3) (T := TX3) (N := 8) (ty := tyX3) (fs2 := z_X3) (ci2 := 3) C dX0_init_92 dX0_init_95 dX0_init_96 lay_X3 tyX3_ok qL_X0_18 qI_X3 ini_X3 rfl zd_X3 mk_66 (by decide) qi_yX3_init ini_X3 qk_yX3_init rfl (by decide +kernel) rfl rfl rfl rfl rfl rfl rfl (setX_hi rfl nX_hi) ?_
  refine gd_aast (t := 4) C dX0_init_99 rfl rfl rfl rfl rfl rfl rfl rfl rfl (vp_in_nI (by decide) (by decide)) ?_
  refine gb_iinc (v := 1) C dX0_init_100 rfl (by decide) rfl ?_
  rw [show nI 0 + 1 = nI 1 from by decide]
  refine gb_goto (tgt := 82) C dX0_init_103 (by decide) ?_
  refine gb_iload_n C dX0_init_82 rfl rfl ?_
  refine gb_iconst (v := nI 4) C dX0_init_83 (by decide) ?_
  refine gb_icmp_gt (tgt := 106) C dX0_init_84 (by decide) (fun h => absurd h (by decide)) (fun _ => ?_)
  refine gb_aload_n C dX0_init_87 rfl rfl ?_
  refine gd_getk (CN := RX0) (T := TX0) (N := 11) (f := 2) C dX0_init_88 rfl rfl rfl lay_X0 qf_X0_20 rfl rfl ?_
  refine gb_iload_n C dX0_init_91 rfl rfl ?_
  refine gd_makeN (CN := RX3) (T := TX3) (N := 8) (ty := tyX3) (fs2 := z_X3) (ci2 := 3) C dX0_init_92 dX0_init_95 dX0_init_96 lay_X3 tyX3_ok qL_X0_18 qI_X3 ini_X3 rfl zd_X3 mk_69 (by decide) qi_yX3_init ini_X3 qk_yX3_init rfl (by decide +kernel) rfl rfl rfl rfl rfl rfl rfl (setX_hi rfl nX_hi) ?_
  refine gd_aast (t := 4) C dX0_init_99 rfl rfl rfl rfl rfl rfl rfl rfl rfl (vp_in_nI (by decide) (by decide)) ?_
  refine gb_iinc (v := 1) C dX0_init_100 rfl (by decide) rfl ?_
  rw [show nI 1 + 1 = nI 2 from by decide]
  refine gb_goto (tgt := 82) C dX0_init_103 (by decide) ?_
  refine gb_iload_n C dX0_init_82 rfl rfl ?_
  refine gb_iconst (v := nI 4) C dX0_init_83 (by decide) ?_
  refine gb_icmp_gt (tgt := 106) C dX0_init_84 (by decide) (fun h => absurd h (by decide)) (fun _ => ?_)
  refine gb_aload_n C dX0_init_87 rfl rfl ?_
  refine gd_getk (CN := RX0) (T := TX0) (N := 11) (f := 2) C dX0_init_88 rfl rfl rfl lay_X0 qf_X0_20 rfl rfl ?_
  refine gb_iload_n C dX0_init_91 rfl rfl ?_
  refine gd_makeN (CN := RX3) (T := TX3) (N := 8) (ty := tyX3) (fs2 := z_X3) (ci2 := 3) C dX0_init_92 dX0_init_95 dX0_init_96 lay_X3 tyX3_ok qL_X0_18 qI_X3 ini_X3 rfl zd_X3 mk_72 (by decide) qi_yX3_init ini_X3 qk_yX3_init rfl (by decide +kernel) rfl rfl rfl rfl rfl rfl rfl (setX_hi rfl nX_hi) ?_
  refine gd_aast (t := 4) C dX0_init_99 rfl rfl rfl rfl rfl rfl rfl rfl rfl (vp_in_nI (by decide) (by decide)) ?_
  refine gb_iinc (v := 1) C dX0_init_100 rfl (by decide) rfl ?_
  rw [show nI 2 + 1 = nI 3 from by decide]
  refine gb_goto (tgt := 82) C dX0_init_103 (by decide) ?_
  refine gb_iload_n C dX0_init_82 rfl rfl ?_
  refine gb_iconst (v := nI 4) C dX0_init_83 (by decide) ?_
  refine gb_icmp_gt (tgt := 106) C dX0_init_84 (by decide) (fun h => absurd h (by decide)) (fun _ => ?_)
  refine gb_aload_n C dX0_init_87 rfl rfl ?_
  refine gd_getk (CN := RX0) (T := TX0) (N := 11) (f := 2) C dX0_init_88 rfl rfl rfl lay_X0 qf_X0_20 rfl rfl ?_
  refine gb_iload_n C dX0_init_91 rfl rfl ?_
  refine gd_makeN (CN := RX3) (T := TX3) (N := 8) (ty := tyX3) (fs2 := z_X3) (ci2 := 3) C dX0_init_92 dX0_init_95 dX0_init_96 lay_X3 tyX3_ok qL_X0_18 qI_X3 ini_X3 rfl zd_X3 mk_75 (by decide) qi_yX3_init ini_X3 qk_yX3_init rfl (by decide +kernel) rfl rfl rfl rfl rfl rfl rfl (setX_hi rfl nX_hi) ?_
  refine gd_aast (t := 4) C dX0_init_99 rfl rfl rfl rfl rfl rfl rfl rfl rfl (vp_in_nI (by decide) (by decide)) ?_
  refine gb_iinc (v := 1) C dX0_init_100 rfl (by decide) rfl ?_
  rw [show nI 3 + 1 = nI 4 from by decide]
  refine gb_goto (tgt := 82) C dX0_init_103 (by decide) ?_
  refine gb_iload_n C dX0_init_82 rfl rfl ?_
  refine gb_iconst (v := nI 4) C dX0_init_83 (by decide) ?_
  refine gb_icmp_gt (tgt := 106) C dX0_init_84 (by decide) (fun h => absurd h (by decide)) (fun _ => ?_)
  refine gb_aload_n C dX0_init_87 rfl rfl ?_
  refine gd_getk (CN := RX0) (T := TX0) (N := 11) (f := 2) C dX0_init_88 rfl rfl rfl lay_X0 qf_X0_20 rfl rfl ?_
  refine gb_iload_n C dX0_init_91 rfl rfl ?_
  refine gd_makeN (CN := RX3) (T := TX3) (N := 8) (ty := tyX3) (fs2 := z_X3) (ci2 := 3) C dX0_init_92 dX0_init_95 dX0_init_96 lay_X3 tyX3_ok qL_X0_18 qI_X3 ini_X3 rfl zd_X3 mk_78 (by decide) qi_yX3_init ini_X3 qk_yX3_init rfl (by decide +kernel) rfl rfl rfl rfl rfl rfl rfl (setX_hi rfl nX_hi) ?_
  refine gd_aast (t := 4) C dX0_init_99 rfl rfl rfl rfl rfl rfl rfl rfl rfl (vp_in_nI (by decide) (by decide)) ?_
  refine gb_iinc (v := 1) C dX0_init_100 rfl (by decide) rfl ?_
  rw [show nI 4 + 1 = nI 5 from by decide]
  refine gb_goto (tgt := 82) C dX0_init_103 (by decide) ?_
  refine gb_iload_n C dX0_init_82 rfl rfl ?_
  refine gb_iconst (v := nI 4) C dX0_init_83 (by decide) ?_
  refine gb_icmp_gt (tgt := 106) C dX0_init_84 (by decide) (fun _ => ?_) (fun h => absurd (by decide) h)
  refine gd_drop (q := 61) rfl rfl (fun _ h => at_cgq (fun j hj => by match j, hj with | 0, _ => rfl | 1, _ => rfl | 2, _ => rfl | 3, _ => rfl | 4, _ => rfl) h) ?_
  exact gd_ret C R dX0_init_106 rfl rfl (fun _ => rfl)
