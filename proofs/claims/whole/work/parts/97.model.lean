/-! ===== printed: the reference is made ===== -/
set_option maxRecDepth 20000 in
set_option maxHeartbeats 8000000 in
theorem mk_157 {E : wEnv} : ∀ D : Dw, D 157 = .inr (11, z_X11) → Mb E yX11_init cX11_init 2 0 14 7188 157 D 158 (dF E 157 D) 172 := by
  intro D hD
  refine mb_intro (own := RX11) (by decide) rfl rfl (by decide) (fun Y C hin R => ?_)
  refine gd_start (k := 157) hD ?_
  refine gb_aload_n C dX11_init_0 rfl rfl ?_
  refine gb_objInit C dX11_init_1 qO_X11 qO_inst qO_code rfl ?_
  refine gb_aload_n C dX11_init_4 rfl rfl ?_
  refine gb_lconst (v := 1) C dX11_init_5 (by decide) ?_
  refine gd_putL (CN := RX11) (T := TX11) (N := 46) (f := 3) (ty0 := tyX11) (fs' := [.int 0, .int 0, .long 0, .long 1, .null, .null, .null, .null, .int 0, .int 0, .int 0, .int 0, .int 0, .int 0, .int 0, .int 0, .int 0, .int 0, .int 0, .long 0, .null, .null, .null, .int 0, .int 0, .int 0, .null, .null, .null, .null, .int 0, .int 0, .int 0, .int 0, .null, .null, .null, .int 0, .int 0, .int 0, .int 0, .int 0, .int 0, .int 0, .int 0, .int 0]) C hin dX11_init_6 rfl rfl rfl lay_X11 tyX11_ok nmX11 qf_X11_7 rfl rfl rfl rfl rfl ?_
  refine gb_aload_n C dX11_init_9 rfl rfl ?_
  refine gb_iconst (v := nI 4) C dX11_init_10 (by decide) ?_
  refine gd_newa (ty := .int) (t := 0) (N := 4) (a0 := (4, .inl (fun _ => 0))) C rfl (Or.inl rfl) dX11_init_11 qA_int rfl (fun _ => rfl) rfl rfl rfl rfl rfl rfl (Or.inl ⟨rfl, rfl⟩) ?_
  refine gd_putL (CN := RX11) (T := TX11) (N := 46) (f := 4) (ty0 := tyX11) (fs' := [.int 0, .int 0, .long 0, .long 1, .ref (E.2.2 + 158), .null, .null, .null, .int 0, .int 0, .int 0, .int 0, .int 0, .int 0, .int 0, .int 0, .int 0, .int 0, .int 0, .long 0, .null, .null, .null, .int 0, .int 0, .int 0, .null, .null, .null, .null, .int 0, .int 0, .int 0, .int 0, .null, .null, .null, .int 0, .int 0, .int 0, .int 0, .int 0, .int 0, .int 0, .int 0, .int 0]) C hin dX11_init_13 rfl rfl rfl lay_X11 tyX11_ok nmX11 qf_X11_13 rfl rfl rfl rfl rfl ?_
  refine gb_aload_n C dX11_init_16 rfl rfl ?_
  refine gb_iconst (v := nI 4) C dX11_init_17 (by decide) ?_
  refine gd_cx (X' := setX nX 159 (.inl (E.2.1 0, (4, .inl (fun _ => 0))))) (fun j hj => if_neg (by omega)) ?_
  refine gd_newa (ty := .int) (t := 0) (N := 4) (a0 := (4, .inl (fun _ => 0))) C rfl (Or.inl rfl) dX11_init_18 qA_int rfl (fun _ => rfl) rfl rfl rfl rfl rfl rfl (Or.inr setX_at) ?_
  refine gd_putL (CN := RX11) (T := TX11) (N := 46) (f := 5) (ty0 := tyX11) (fs' := [.int 0, .int 0, .long 0, .long 1, .ref (E.2.2 + 158), .ref (E.2.2 + 159), .null, .null, .int 0, .int 0, .int 0, .int 0, .int 0, .int 0, .int 0, .int 0, .int 0, .int 0, .int 0, .long 0, .null, .null, .null, .int 0, .int 0, .int 0, .null, .null, .null, .null, .int 0, .int 0, .int 0, .int 0, .null, .null, .null, .int 0, .int 0, .int 0, .int 0, .int 0, .int 0, .int 0, .int 0, .int 0]) C hin dX11_init_20 rfl rfl rfl lay_X11 tyX11_ok nmX11 qf_X11_17 rfl rfl rfl rfl rfl ?_
  refine gb_aload_n C dX11_init_23 rfl rfl ?_
  refine gb_sipush (v := nI 240) C dX11_init_24 (by decide) ?_
  refine gd_newa (ty := .long) (t := 2) (N := 240) (a0 := (240, .inr (.inl (fun _ => 0)))) C rfl (Or.inr (Or.inr rfl)) dX11_init_27 qA_long rfl (fun _ => rfl) rfl rfl rfl rfl rfl rfl (Or.inl ⟨rfl, rfl⟩) ?_
  refine gd_putL (CN := RX11) (T := TX11) (N := 46) (f := 6) (ty0 := tyX11) (fs' := [.int 0, .int 0, .long 0, .long 1, .ref (E.2.2 + 158), .ref (E.2.2 + 159), .ref (E.2.2 + 160), .null, .int 0, .int 0, .int 0, .int 0, .int 0, .int 0, .int 0, .int 0, .int 0, .int 0, .int 0, .long 0, .null, .null, .null, .int 0, .int 0, .int 0, .null, .null, .null, .null, .int 0, .int 0, .int 0, .int 0, .null, .null, .null, .int 0, .int 0, .int 0, .int 0, .int 0, .int 0, .int 0, .int 0, .int 0]) C hin dX11_init_29 rfl rfl rfl lay_X11 tyX11_ok nmX11 qf_X11_20 rfl rfl rfl rfl rfl ?_
  refine gb_aload_n C dX11_init_32 rfl rfl ?_
  refine gb_sipush (v := nI 900) C dX11_init_33 (by decide) ?_
  refine gd_newa (ty := .byte) (t := 1) (N := 900) (a0 := (900, .inl (fun _ => 0))) C rfl (Or.inr (Or.inl rfl)) dX11_init_36 qA_byte rfl (fun _ => rfl) rfl rfl rfl rfl rfl rfl (Or.inl ⟨rfl, rfl⟩) ?_
  refine gd_putL (CN := RX11) (T := TX11) (N := 46) (f := 7) (ty0 := tyX11) (fs' := [.int 0, .int 0, .long 0, .long 1, .ref (E.2.2 + 158), .ref (E.2.2 + 159), .ref (E.2.2 + 160), .ref (E.2.2 + 161), .int 0, .int 0, .int 0, .int 0, .int 0, .int 0, .int 0, .int 0, .int 0, .int 0, .int 0, .long 0, .null, .null, .null, .int 0, .int 0, .int 0, .null, .null, .null, .null, .int 0, .int 0, .int 0, .int 0, .null, .null, .null, .int 0, .int 0, .int 0, .int 0, .int 0, .int 0, .int 0, .int 0, .int 0]) C hin dX11_init_38 rfl rfl rfl lay_X11 tyX11_ok nmX11 qf_X11_24 rfl rfl rfl rfl rfl ?_
  refine gb_aload_n C dX11_init_41 rfl rfl ?_
  refine gb_iconst (v := -1) C dX11_init_42 (by decide) ?_
  refine gd_putL (CN := RX11) (T := TX11) (N := 46) (f := 10) (ty0 := tyX11) (fs' := [.int 0, .int 0, .long 0, .long 1, .ref (E.2.2 + 158), .ref (E.2.2 + 159), .ref (E.2.2 + 160), .ref (E.2.2 + 161), .int 0, .int 0, .int (-1), .int 0, .int 0, .int 0, .int 0, .int 0, .int 0, .int 0, .int 0, .long 0, .null, .null, .null, .int 0, .int 0, .int 0, .null, .null, .null, .null, .int 0, .int 0, .int 0, .int 0, .null, .null, .null, .int 0, .int 0, .int 0, .int 0, .int 0, .int 0, .int 0, .int 0, .int 0]) C hin dX11_init_43 rfl rfl rfl lay_X11 tyX11_ok nmX11 qf_X11_28 rfl rfl rfl rfl rfl ?_
  refine gb_aload_n C dX11_init_46 rfl rfl ?_
  refine gb_iconst (v := -1) C dX11_init_47 (by decide) ?_
  refine gd_putL (CN := RX11) (T := TX11) (N := 46) (f := 11) (ty0 := tyX11) (fs' := [.int 0, .int 0, .long 0, .long 1, .ref (E.2.2 + 158), .ref (E.2.2 + 159), .ref (E.2.2 + 160), .ref (E.2.2 + 161), .int 0, .int 0, .int (-1), .int (-1), .int 0, .int 0, .int 0, .int 0, .int 0, .int 0, .int 0, .long 0, .null, .null, .null, .int 0, .int 0, .int 0, .null, .null, .null, .null, .int 0, .int 0, .int 0, .int 0, .null, .null, .null, .int 0, .int 0, .int 0, .int 0, .int 0, .int 0, .int 0, .int 0, .int 0]) C hin dX11_init_48 rfl rfl rfl lay_X11 tyX11_ok nmX11 qf_X11_32 rfl rfl rfl rfl rfl ?_
  refine gb_aload_n C dX11_init_51 rfl rfl ?_
  refine gb_sipush (v := nI 2375) C dX11_init_52 (by decide) ?_
  refine gd_cx (X' := setX _ 162 (.inl (E.2.1 0, (2375, .inl (fun _ => 0))))) (fun j hj => if_neg (by omega)) ?_
  refine gd_newa (ty := .int) (t := 0) (N := 2375) (a0 := (2375, .inl (fun _ => 0))) C rfl (Or.inl rfl) dX11_init_55 qA_int rfl (fun _ => rfl) rfl rfl rfl rfl rfl rfl (Or.inr setX_at) ?_
  refine gd_putL (CN := RX11) (T := TX11) (N := 46) (f := 20) (ty0 := tyX11) (fs' := [.int 0, .int 0, .long 0, .long 1, .ref (E.2.2 + 158), .ref (E.2.2 + 159), .ref (E.2.2 + 160), .ref (E.2.2 + 161), .int 0, .int 0, .int (-1), .int (-1), .int 0, .int 0, .int 0, .int 0, .int 0, .int 0, .int 0, .long 0, .ref (E.2.2 + 162), .null, .null, .int 0, .int 0, .int 0, .null, .null, .null, .null, .int 0, .int 0, .int 0, .int 0, .null, .null, .null, .int 0, .int 0, .int 0, .int 0, .int 0, .int 0, .int 0, .int 0, .int 0]) C hin dX11_init_57 rfl rfl rfl lay_X11 tyX11_ok nmX11 qf_X11_35 rfl rfl rfl rfl rfl ?_
  refine gb_aload_n C dX11_init_60 rfl rfl ?_
  refine gb_sipush (v := nI 198) C dX11_init_61 (by decide) ?_
  refine gd_newa (ty := .int) (t := 0) (N := 198) (a0 := (198, .inl (fun _ => 0))) C rfl (Or.inl rfl) dX11_init_64 qA_int rfl (fun _ => rfl) rfl rfl rfl rfl rfl rfl (Or.inl ⟨rfl, rfl⟩) ?_
  refine gd_putL (CN := RX11) (T := TX11) (N := 46) (f := 21) (ty0 := tyX11) (fs' := [.int 0, .int 0, .long 0, .long 1, .ref (E.2.2 + 158), .ref (E.2.2 + 159), .ref (E.2.2 + 160), .ref (E.2.2 + 161), .int 0, .int 0, .int (-1), .int (-1), .int 0, .int 0, .int 0, .int 0, .int 0, .int 0, .int 0, .long 0, .ref (E.2.2 + 162), .ref (E.2.2 + 163), .null, .int 0, .int 0, .int 0, .null, .null, .null, .null, .int 0, .int 0, .int 0, .int 0, .null, .null, .null, .int 0, .int 0, .int 0, .int 0, .int 0, .int 0, .int 0, .int 0, .int 0]) C hin dX11_init_66 rfl rfl rfl lay_X11 tyX11_ok nmX11 qf_X11_38 rfl rfl rfl rfl rfl ?_
  refine gb_aload_n C dX11_init_69 rfl rfl ?_
  refine gb_sipush (v := nI 130) C dX11_init_70 (by decide) ?_
  refine gd_newa (ty := .long) (t := 2) (N := 130) (a0 := (130, .inr (.inl (fun _ => 0)))) C rfl (Or.inr (Or.inr rfl)) dX11_init_73 qA_long rfl (fun _ => rfl) rfl rfl rfl rfl rfl rfl (Or.inl ⟨rfl, rfl⟩) ?_
  refine gd_putL (CN := RX11) (T := TX11) (N := 46) (f := 22) (ty0 := tyX11) (fs' := [.int 0, .int 0, .long 0, .long 1, .ref (E.2.2 + 158), .ref (E.2.2 + 159), .ref (E.2.2 + 160), .ref (E.2.2 + 161), .int 0, .int 0, .int (-1), .int (-1), .int 0, .int 0, .int 0, .int 0, .int 0, .int 0, .int 0, .long 0, .ref (E.2.2 + 162), .ref (E.2.2 + 163), .ref (E.2.2 + 164), .int 0, .int 0, .int 0, .null, .null, .null, .null, .int 0, .int 0, .int 0, .int 0, .null, .null, .null, .int 0, .int 0, .int 0, .int 0, .int 0, .int 0, .int 0, .int 0, .int 0]) C hin dX11_init_75 rfl rfl rfl lay_X11 tyX11_ok nmX11 qf_X11_41 rfl rfl rfl rfl rfl ?_
  refine gb_aload_n C dX11_init_78 rfl rfl ?_
  refine gb_sipush (v := nI 2010) C dX11_init_79 (by decide) ?_
  refine gd_newa (ty := .int) (t := 0) (N := 2010) (a0 := (2010, .inl (fun _ => 0))) C rfl (Or.inl rfl) dX11_init_82 qA_int rfl (fun _ => rfl) rfl rfl rfl rfl rfl rfl (Or.inl ⟨rfl, rfl⟩) ?_
  refine gd_putL (CN := RX11) (T := TX11) (N := 46) (f := 26) (ty0 := tyX11) (fs' := [.int 0, .int 0, .long 0, .long 1, .ref (E.2.2 + 158), .ref (E.2.2 + 159), .ref (E.2.2 + 160), .ref (E.2.2 + 161), .int 0, .int 0, .int (-1), .int (-1), .int 0, .int 0, .int 0, .int 0, .int 0, .int 0, .int 0, .long 0, .ref (E.2.2 + 162), .ref (E.2.2 + 163), .ref (E.2.2 + 164), .int 0, .int 0, .int 0, .ref (E.2.2 + 165), .null, .null, .null, .int 0, .int 0, .int 0, .int 0, .null, .null, .null, .int 0, .int 0, .int 0, .int 0, .int 0, .int 0, .int 0, .int 0, .int 0]) C hin dX11_init_84 rfl rfl rfl lay_X11 tyX11_ok nmX11 qf_X11_44 rfl rfl rfl rfl rfl ?_
  refine gb_aload_n C dX11_init_87 rfl rfl ?_
  refine gb_iconst (v := nI 4) C dX11_init_88 (by decide) ?_
  refine gd_newa (ty := .int) (t := 0) (N := 4) (a0 := (4, .inl (fun _ => 0))) C rfl (Or.inl rfl) dX11_init_89 qA_int rfl (fun _ => rfl) rfl rfl rfl rfl rfl rfl (Or.inl ⟨rfl, rfl⟩) ?_
  refine gd_putL (CN := RX11) (T := TX11) (N := 46) (f := 27) (ty0 := tyX11) (fs' := [.int 0, .int 0, .long 0, .long 1, .ref (E.2.2 + 158), .ref (E.2.2 + 159), .ref (E.2.2 + 160), .ref (E.2.2 + 161), .int 0, .int 0, .int (-1), .int (-1), .int 0, .int 0, .int 0, .int 0, .int 0, .int 0, .int 0, .long 0, .ref (E.2.2 + 162), .ref (E.2.2 + 163), .ref (E.2.2 + 164), .int 0, .int 0, .int 0, .ref (E.2.2 + 165), .ref (E.2.2 + 166), .null, .null, .int 0, .int 0, .int 0, .int 0, .null, .null, .null, .int 0, .int 0, .int 0, .int 0, .int 0, .int 0, .int 0, .int 0, .int 0]) C hin dX11_init_91 rfl rfl rfl lay_X11 tyX11_ok nmX11 qf_X11_47 rfl rfl rfl rfl rfl ?_
  refine gb_aload_n C dX11_init_94 rfl rfl ?_
  refine gb_iconst (v := nI 4) C dX11_init_95 (by decide) ?_
  refine gd_newa (ty := .int) (t := 0) (N := 4) (a0 := (4, .inl (fun _ => 0))) C rfl (Or.inl rfl) dX11_init_96 qA_int rfl (fun _ => rfl) rfl rfl rfl rfl rfl rfl (Or.inl ⟨rfl, rfl⟩) ?_
  refine gd_putL (CN := RX11) (T := TX11) (N := 46) (f := 28) (ty0 := tyX11) (fs' := [.int 0, .int 0, .long 0, .long 1, .ref (E.2.2 + 158), .ref (E.2.2 + 159), .ref (E.2.2 + 160), .ref (E.2.2 + 161), .int 0, .int 0, .int (-1), .int (-1), .int 0, .int 0, .int 0, .int 0, .int 0, .int 0, .int 0, .long 0, .ref (E.2.2 + 162), .ref (E.2.2 + 163), .ref (E.2.2 + 164), .int 0, .int 0, .int 0, .ref (E.2.2 + 165), .ref (E.2.2 + 166), .ref (E.2.2 + 167), .null, .int 0, .int 0, .int 0, .int 0, .null, .null, .null, .int 0, .int 0, .int 0, .int 0, .int 0, .int 0, .int 0, .int 0, .int 0]) C hin dX11_init_98 rfl rfl rfl lay_X11 tyX11_ok nmX11 qf_X11_50 rfl rfl rfl rfl rfl ?_
  refine gb_aload_n C dX11_init_101 rfl rfl ?_
  refine gb_sipush (v := nI 990) C dX11_init_102 (by decide) ?_
  refine gd_newa (ty := .int) (t := 0) (N := 990) (a0 := (990, .inl (fun _ => 0))) C rfl (Or.inl rfl) dX11_init_105 qA_int rfl (fun _ => rfl) rfl rfl rfl rfl rfl rfl (Or.inl ⟨rfl, rfl⟩) ?_
  refine gd_putL (CN := RX11) (T := TX11) (N := 46) (f := 29) (ty0 := tyX11) (fs' := [.int 0, .int 0, .long 0, .long 1, .ref (E.2.2 + 158), .ref (E.2.2 + 159), .ref (E.2.2 + 160), .ref (E.2.2 + 161), .int 0, .int 0, .int (-1), .int (-1), .int 0, .int 0, .int 0, .int 0, .int 0, .int 0, .int 0, .long 0, .ref (E.2.2 + 162), .ref (E.2.2 + 163), .ref (E.2.2 + 164), .int 0, .int 0, .int 0, .ref (E.2.2 + 165), .ref (E.2.2 + 166), .ref (E.2.2 + 167), .ref (E.2.2 + 168), .int 0, .int 0, .int 0, .int 0, .null, .null, .null, .int 0, .int 0, .int 0, .int 0, .int 0, .int 0, .int 0, .int 0, .int 0]) C hin dX11_init_107 rfl rfl rfl lay_X11 tyX11_ok nmX11 qf_X11_53 rfl rfl rfl rfl rfl ?_
  refine gb_aload_n C dX11_init_110 rfl rfl ?_
  refine gb_iconst (v := -1) C dX11_init_111 (by decide) ?_
  refine gd_putL (CN := RX11) (T := TX11) (N := 46) (f := 30) (ty0 := tyX11) (fs' := [.int 0, .int 0, .long 0, .long 1, .ref (E.2.2 + 158), .ref (E.2.2 + 159), .ref (E.2.2 + 160), .ref (E.2.2 + 161), .int 0, .int 0, .int (-1), .int (-1), .int 0, .int 0, .int 0, .int 0, .int 0, .int 0, .int 0, .long 0, .ref (E.2.2 + 162), .ref (E.2.2 + 163), .ref (E.2.2 + 164), .int 0, .int 0, .int 0, .ref (E.2.2 + 165), .ref (E.2.2 + 166), .ref (E.2.2 + 167), .ref (E.2.2 + 168), .int (-1), .int 0, .int 0, .int 0, .null, .null, .null, .int 0, .int 0, .int 0, .int 0, .int 0, .int 0, .int 0, .int 0, .int 0]) C hin dX11_init_112 rfl rfl rfl lay_X11 tyX11_ok nmX11 qf_X11_56 rfl rfl rfl rfl rfl ?_
  refine gb_aload_n C dX11_init_115 rfl rfl ?_
  refine gb_iconst (v := -1) C dX11_init_116 (by decide) ?_
  refine gd_putL (CN := RX11) (T := TX11) (N := 46) (f := 31) (ty0 := tyX11) (fs' := [.int 0, .int 0, .long 0, .long 1, .ref (E.2.2 + 158), .ref (E.2.2 + 159), .ref (E.2.2 + 160), .ref (E.2.2 + 161), .int 0, .int 0, .int (-1), .int (-1), .int 0, .int 0, .int 0, .int 0, .int 0, .int 0, .int 0, .long 0, .ref (E.2.2 + 162), .ref (E.2.2 + 163), .ref (E.2.2 + 164), .int 0, .int 0, .int 0, .ref (E.2.2 + 165), .ref (E.2.2 + 166), .ref (E.2.2 + 167), .ref (E.2.2 + 168), .int (-1), .int (-1), .int 0, .int 0, .null, .null, .null, .int 0, .int 0, .int 0, .int 0, .int 0, .int 0, .int 0, .int 0, .int 0]) C hin dX11_init_117 rfl rfl rfl lay_X11 tyX11_ok nmX11 qf_X11_59 rfl rfl rfl rfl rfl ?_
  refine gb_aload_n C dX11_init_120 rfl rfl ?_
  refine gb_bipush (v := nI 126) C dX11_init_121 (by decide) ?_
  refine gd_newa (ty := .int) (t := 0) (N := 126) (a0 := (126, .inl (fun _ => 0))) C rfl (Or.inl rfl) dX11_init_123 qA_int rfl (fun _ => rfl) rfl rfl rfl rfl rfl rfl (Or.inl ⟨rfl, rfl⟩) ?_
  refine gd_putL (CN := RX11) (T := TX11) (N := 46) (f := 34) (ty0 := tyX11) (fs' := [.int 0, .int 0, .long 0, .long 1, .ref (E.2.2 + 158), .ref (E.2.2 + 159), .ref (E.2.2 + 160), .ref (E.2.2 + 161), .int 0, .int 0, .int (-1), .int (-1), .int 0, .int 0, .int 0, .int 0, .int 0, .int 0, .int 0, .long 0, .ref (E.2.2 + 162), .ref (E.2.2 + 163), .ref (E.2.2 + 164), .int 0, .int 0, .int 0, .ref (E.2.2 + 165), .ref (E.2.2 + 166), .ref (E.2.2 + 167), .ref (E.2.2 + 168), .int (-1), .int (-1), .int 0, .int 0, .ref (E.2.2 + 169), .null, .null, .int 0, .int 0, .int 0, .int 0, .int 0, .int 0, .int 0, .int 0, .int 0]) C hin dX11_init_125 rfl rfl rfl lay_X11 tyX11_ok nmX11 qf_X11_62 rfl rfl rfl rfl rfl ?_
  refine gb_aload_n C dX11_init_128 rfl rfl ?_
  refine gb_iconst (v := nI 5) C dX11_init_129 (by decide) ?_
  refine gd_newa (ty := .int) (t := 0) (N := 5) (a0 := (5, .inl (fun _ => 0))) C rfl (Or.inl rfl) dX11_init_130 qA_int rfl (fun _ => rfl) rfl rfl rfl rfl rfl rfl (Or.inl ⟨rfl, rfl⟩) ?_
  refine gd_putL (CN := RX11) (T := TX11) (N := 46) (f := 35) (ty0 := tyX11) (fs' := [.int 0, .int 0, .long 0, .long 1, .ref (E.2.2 + 158), .ref (E.2.2 + 159), .ref (E.2.2 + 160), .ref (E.2.2 + 161), .int 0, .int 0, .int (-1), .int (-1), .int 0, .int 0, .int 0, .int 0, .int 0, .int 0, .int 0, .long 0, .ref (E.2.2 + 162), .ref (E.2.2 + 163), .ref (E.2.2 + 164), .int 0, .int 0, .int 0, .ref (E.2.2 + 165), .ref (E.2.2 + 166), .ref (E.2.2 + 167), .ref (E.2.2 + 168), .int (-1), .int (-1), .int 0, .int 0, .ref (E.2.2 + 169), .ref (E.2.2 + 170), .null, .int 0, .int 0, .int 0, .int 0, .int 0, .int 0, .int 0, .int 0, .int 0]) C hin dX11_init_132 rfl rfl rfl lay_X11 tyX11_ok nmX11 qf_X11_65 rfl rfl rfl rfl rfl ?_
  refine gb_aload_n C dX11_init_135 rfl rfl ?_
  refine gb_sipush (v := nI 198) C dX11_init_136 (by decide) ?_
  refine gd_newa (ty := .int) (t := 0) (N := 198) (a0 := (198, .inl (fun _ => 0))) C rfl (Or.inl rfl) dX11_init_139 qA_int rfl (fun _ => rfl) rfl rfl rfl rfl rfl rfl (Or.inl ⟨rfl, rfl⟩) ?_
  refine gd_putL (CN := RX11) (T := TX11) (N := 46) (f := 36) (ty0 := tyX11) (fs' := [.int 0, .int 0, .long 0, .long 1, .ref (E.2.2 + 158), .ref (E.2.2 + 159), .ref (E.2.2 + 160), .ref (E.2.2 + 161), .int 0, .int 0, .int (-1), .int (-1), .int 0, .int 0, .int 0, .int 0, .int 0, .int 0, .int 0, .long 0, .ref (E.2.2 + 162), .ref (E.2.2 + 163), .ref (E.2.2 + 164), .int 0, .int 0, .int 0, .ref (E.2.2 + 165), .ref (E.2.2 + 166), .ref (E.2.2 + 167), .ref (E.2.2 + 168), .int (-1), .int (-1), .int 0, .int 0, .ref (E.2.2 + 169), .ref (E.2.2 + 170), .ref (E.2.2 + 171), .int 0, .int 0, .int 0, .int 0, .int 0, .int 0, .int 0, .int 0, .int 0]) C hin dX11_init_141 rfl rfl rfl lay_X11 tyX11_ok nmX11 qf_X11_68 rfl rfl rfl rfl rfl ?_
  refine gb_iconst (v := nI 0) C dX11_init_144 (by decide) ?_
  refine gb_istore_n C dX11_init_145 rfl rfl ?_
  refine gb_iload_n C dX11_init_146 rfl rfl ?_
  refine gb_iconst (v := nI 4) C dX11_init_147 (by decide) ?_
  refine gb_icmp_ge (tgt := 164) C dX11_init_148 (by decide) (fun h => absurd h (by decide)) (fun _ => ?_)
  refine gb_aload_n C dX11_init_151 rfl rfl ?_
  refine gd_getk (CN := RX11) (T := TX11) (N := 46) (f := 5) C dX11_init_152 rfl rfl rfl lay_X11 qf_X11_17 rfl rfl ?_
  refine gb_iload_n C dX11_init_155 rfl rfl ?_
  refine gb_iconst (v := -1) C dX11_init_156 (by decide) ?_
  refine gd_sw (by decide) ?_
  refine gd_iast C dX11_init_157 rfl rfl (vp_in_nI (by decide) (by decide)) ?_
  refine gb_iinc (v := 1) C dX11_init_158 rfl (by decide) rfl ?_
  rw [show nI 0 + 1 = nI 1 from by decide]
  refine gb_goto (tgt := 146) C dX11_init_161 (by decide) ?_
  refine gb_iload_n C dX11_init_146 rfl rfl ?_
  refine gb_iconst (v := nI 4) C dX11_init_147 (by decide) ?_
  refine gb_icmp_ge (tgt := 164) C dX11_init_148 (by decide) (fun h => absurd h (by decide)) (fun _ => ?_)
  refine gb_aload_n C dX11_init_151 rfl rfl ?_
  refine gd_getk (CN := RX11) (T := TX11) (N := 46) (f := 5) C dX11_init_152 rfl rfl rfl lay_X11 qf_X11_17 rfl rfl ?_
  refine gb_iload_n C dX11_init_155 rfl rfl ?_
  refine gb_iconst (v := -1) C dX11_init_156 (by decide) ?_
  refine gd_iast C dX11_init_157 rfl rfl (vp_in_nI (by decide) (by decide)) ?_
  refine gb_iinc (v := 1) C dX11_init_158 rfl (by decide) rfl ?_
  rw [show nI 1 + 1 = nI 2 from by decide]
  refine gb_goto (tgt := 146) C dX11_init_161 (by decide) ?_
  refine gb_iload_n C dX11_init_146 rfl rfl ?_
  refine gb_iconst (v := nI 4) C dX11_init_147 (by decide) ?_
  refine gb_icmp_ge (tgt := 164) C dX11_init_148 (by decide) (fun h => absurd h (by decide)) (fun _ => ?_)
  refine gb_aload_n C dX11_init_151 rfl rfl ?_
  refine gd_getk (CN := RX11) (T := TX11) (N := 46) (f := 5) C dX11_init_152 rfl rfl rfl lay_X11 qf_X11_17 rfl rfl ?_
  refine gb_iload_n C dX11_init_155 rfl rfl ?_
  refine gb_iconst (v := -1) C dX11_init_156 (by decide) ?_
  refine gd_iast C dX11_init_157 rfl rfl (vp_in_nI (by decide) (by decide)) ?_
  refine gb_iinc (v := 1) C dX11_init_158 rfl (by decide) rfl ?_
  rw [show nI 2 + 1 = nI 3 from by decide]
  refine gb_goto (tgt := 146) C dX11_init_161 (by decide) ?_
  refine gb_iload_n C dX11_init_146 rfl rfl ?_
  refine gb_iconst (v := nI 4) C dX11_init_147 (by decide) ?_
  refine gb_icmp_ge (tgt := 164) C dX11_init_148 (by decide) (fun h => absurd h (by decide)) (fun _ => ?_)
  refine gb_aload_n C dX11_init_151 rfl rfl ?_
  refine gd_getk (CN := RX11) (T := TX11) (N := 46) (f := 5) C dX11_init_152 rfl rfl rfl lay_X11 qf_X11_17 rfl rfl ?_
  refine gb_iload_n C dX11_init_155 rfl rfl ?_
  refine gb_iconst (v := -1) C dX11_init_156 (by decide) ?_
  refine gd_iast C dX11_init_157 rfl rfl (vp_in_nI (by decide) (by decide)) ?_
  refine gb_iinc (v := 1) C dX11_init_158 rfl (by decide) rfl ?_
  rw [show nI 3 + 1 = nI 4 from by decide]
  refine gb_goto (tgt := 146) C dX11_init_161 (by decide) ?_
  refine gb_iload_n C dX11_init_146 rfl rfl ?_
  refine gb_iconst (v := nI 4) C dX11_init_147 (by decide) ?_
  refine gb_icmp_ge (tgt := 164) C dX11_init_148 (by decide) (fun _ => ?_) (fun h => absurd (by decide) h)
  refine gb_aload_n C dX11_init_164 rfl rfl ?_
  refine gd_getk (CN := RX11) (T := TX11) (N := 46) (f := 20) C dX11_init_165 rfl rfl rfl lay_X11 qf_X11_35 rfl rfl ?_
  refine gb_bipush (v := nI 8) C dX11_init_168 (by decide) ?_
  refine gb_iconst (v := -1) C dX11_init_170 (by decide) ?_
  refine gd_sw (by decide) ?_
  refine gd_iast C dX11_init_171 rfl rfl (vp_in_nI (by decide) (by decide)) ?_
  refine gd_drop (q := 162) rfl rfl (fun _ h => at_cgi (fun j _ => rfl) h) ?_
  refine gd_drop (q := 159) rfl rfl (fun _ h => at_cgi (fun j hj => by match j, hj with | 0, _ => rfl | 1, _ => rfl | 2, _ => rfl | 3, _ => rfl) h) ?_
  exact gd_ret C R dX11_init_172 rfl rfl (fun _ => rfl)
