/-! ===== printed: the whole object ===== -/
set_option maxRecDepth 20000 in
set_option maxHeartbeats 1000000 in
theorem mk_0 {E : wEnv} : ∀ D : Dw, D 0 = .inr (10, z_X10) → Mb E yX10_init cX10_init 2 5 156 5052 0 D 1 (dF E 0 D) 157 := by
  intro D hD
  refine mb_intro (own := RX10) (by decide) rfl rfl (by decide) (fun Y C hin R => ?_)
  refine gd_start (k := 0) hD ?_
  refine gb_aload_n C dX10_init_0 rfl rfl ?_
  refine gb_objInit C dX10_init_1 qO_X10 qO_inst qO_code rfl ?_
  refine gb_aload_n C dX10_init_4 rfl rfl ?_
  refine gd_makeN (CN := RX6) (T := TX6) (N := 3) (ty := tyX6) (fs2 := z_X6) (ci2 := 6) C dX10_init_5 dX10_init_8 dX10_init_9 lay_X6 tyX6_ok qL_X10_7 qI_X6 ini_X6 rfl zd_X6 mk_1 (by decide) qi_yX6_init ini_X6 qk_yX6_init rfl (by decide +kernel) rfl rfl rfl rfl rfl rfl rfl nX_hi ?_
  refine gd_putL (CN := RX10) (T := TX10) (N := 19) (f := 0) (ty0 := tyX10) (fs' := [.ref (E.2.2 + 1), .null, .null, .null, .null, .null, .null, .null, .null, .null, .null, .null, .int 0, .int 0, .int 0, .int 0, .int 0, .long 0, .long 0]) C hin dX10_init_12 rfl rfl rfl lay_X10 tyX10_ok nmX10 qf_X10_10 rfl rfl rfl rfl rfl ?_
  refine gb_aload_n C dX10_init_15 rfl rfl ?_
  refine gd_makeN (CN := RX9) (T := TX9) (N := 3) (ty := tyX9) (fs2 := z_X9) (ci2 := 9) C dX10_init_16 dX10_init_19 dX10_init_20 lay_X9 tyX9_ok qL_X10_16 qI_X9 ini_X9 rfl zd_X9 mk_9 (by decide) qi_yX9_init ini_X9 qk_yX9_init rfl (by decide +kernel) rfl rfl rfl rfl rfl rfl rfl nX_hi ?_
  refine gd_putL (CN := RX10) (T := TX10) (N := 19) (f := 1) (ty0 := tyX10) (fs' := [.ref (E.2.2 + 1), .ref (E.2.2 + 9), .null, .null, .null, .null, .null, .null, .null, .null, .null, .null, .int 0, .int 0, .int 0, .int 0, .int 0, .long 0, .long 0]) C hin dX10_init_23 rfl rfl rfl lay_X10 tyX10_ok nmX10 qf_X10_19 rfl rfl rfl rfl rfl ?_
  refine gb_aload_n C dX10_init_26 rfl rfl ?_
  refine gb_iconst (v := nI 3) C dX10_init_27 (by decide) ?_
  refine gd_newq (t := 3) (N := 3) C dX10_init_28 qL_X10_16 C.Z.1.1 rfl rfl rfl rfl rfl rfl rfl ?_
  refine gd_putL (CN := RX10) (T := TX10) (N := 19) (f := 2) (ty0 := tyX10) (fs' := [.ref (E.2.2 + 1), .ref (E.2.2 + 9), .ref (E.2.2 + 32), .null, .null, .null, .null, .null, .null, .null, .null, .null, .int 0, .int 0, .int 0, .int 0, .int 0, .long 0, .long 0]) C hin dX10_init_31 rfl rfl rfl lay_X10 tyX10_ok nmX10 qf_X10_23 rfl rfl rfl rfl rfl ?_
  refine gb_aload_n C dX10_init_34 rfl rfl ?_
  refine gd_makeN (CN := RX1) (T := TX1) (N := 13) (ty := tyX1) (fs2 := z_X1) (ci2 := 1) C dX10_init_35 dX10_init_38 dX10_init_39 lay_X1 tyX1_ok qL_X10_27 qI_X1 ini_X1 rfl zd_X1 mk_33 (by decide) qi_yX1_init ini_X1 qk_yX1_init rfl (by decide +kernel) rfl rfl rfl rfl rfl rfl rfl (setX_hi rfl nX_hi) ?_
  refine gd_putL (CN := RX10) (T := TX10) (N := 19) (f := 3) (ty0 := tyX10) (fs' := [.ref (E.2.2 + 1), .ref (E.2.2 + 9), .ref (E.2.2 + 32), .ref (E.2.2 + 33), .null, .null, .null, .null, .null, .null, .null, .null, .int 0, .int 0, .int 0, .int 0, .int 0, .long 0, .long 0]) C hin dX10_init_42 rfl rfl rfl lay_X10 tyX10_ok nmX10 qf_X10_30 rfl rfl rfl rfl rfl ?_
  refine gb_aload_n C dX10_init_45 rfl rfl ?_
  refine gd_makeN (CN := RX7) (T := TX7) (N := 9) (ty := tyX7) (fs2 := z_X7) (ci2 := 7) C dX10_init_46 dX10_init_49 dX10_init_50 lay_X7 tyX7_ok qL_X10_34 qI_X7 ini_X7 rfl zd_X7 mk_45 (by decide) qi_yX7_init ini_X7 qk_yX7_init rfl (by decide +kernel) rfl rfl rfl rfl rfl rfl rfl (setX_hi rfl nX_hi) ?_
  refine gd_putL (CN := RX10) (T := TX10) (N := 19) (f := 4) (ty0 := tyX10) (fs' := [.ref (E.2.2 + 1), .ref (E.2.2 + 9), .ref (E.2.2 + 32), .ref (E.2.2 + 33), .ref (E.2.2 + 45), .null, .null, .null, .null, .null, .null, .null, .int 0, .int 0, .int 0, .int 0, .int 0, .long 0, .long 0]) C hin dX10_init_53 rfl rfl rfl lay_X10 tyX10_ok nmX10 qf_X10_37 rfl rfl rfl rfl rfl ?_
  refine gb_aload_n C dX10_init_56 rfl rfl ?_
  refine gd_make (CN := RX5) (T := TX5) (N := 12) (ty := tyX5) (fs2 := z_X5) (ci2 := 5) C dX10_init_57 dX10_init_60 dX10_init_61 lay_X5 tyX5_ok qL_X10_41 qI_X5 ini_X5 rfl zd_X5 mk_52 ql_X10_43 qi_yX5_init ini_X5 qk_yX5_init rfl (by decide +kernel) rfl rfl rfl rfl rfl rfl rfl (setX_hi rfl nX_hi) ?_
  refine gd_putL (CN := RX10) (T := TX10) (N := 19) (f := 5) (ty0 := tyX10) (fs' := [.ref (E.2.2 + 1), .ref (E.2.2 + 9), .ref (E.2.2 + 32), .ref (E.2.2 + 33), .ref (E.2.2 + 45), .ref (E.2.2 + 52), .null, .null, .null, .null, .null, .null, .int 0, .int 0, .int 0, .int 0, .int 0, .long 0, .long 0]) C hin dX10_init_64 rfl rfl rfl lay_X10 tyX10_ok nmX10 qf_X10_44 rfl rfl rfl rfl rfl ?_
  refine gb_aload_n C dX10_init_67 rfl rfl ?_
  refine gd_makeN (CN := RX2) (T := TX2) (N := 1) (ty := tyX2) (fs2 := z_X2) (ci2 := 2) C dX10_init_68 dX10_init_71 dX10_init_72 lay_X2 tyX2_ok qL_X10_48 qI_X2 ini_X2 rfl zd_X2 mk_55 (by decide) qi_yX2_init ini_X2 qk_yX2_init rfl (by decide +kernel) rfl rfl rfl rfl rfl rfl rfl (setX_hi rfl nX_hi) ?_
  refine gd_putL (CN := RX10) (T := TX10) (N := 19) (f := 6) (ty0 := tyX10) (fs' := [.ref (E.2.2 + 1), .ref (E.2.2 + 9), .ref (E.2.2 + 32), .ref (E.2.2 + 33), .ref (E.2.2 + 45), .ref (E.2.2 + 52), .ref (E.2.2 + 55), .null, .null, .null, .null, .null, .int 0, .int 0, .int 0, .int 0, .int 0, .long 0, .long 0]) C hin dX10_init_75 rfl rfl rfl lay_X10 tyX10_ok nmX10 qf_X10_51 rfl rfl rfl rfl rfl ?_
  refine gb_aload_n C dX10_init_78 rfl rfl ?_
  refine gd_makeN (CN := RX8) (T := TX8) (N := 2) (ty := tyX8) (fs2 := z_X8) (ci2 := 8) C dX10_init_79 dX10_init_82 dX10_init_83 lay_X8 tyX8_ok qL_X10_55 qI_X8 ini_X8 rfl zd_X8 mk_56 (by decide) qi_yX8_init ini_X8 qk_yX8_init rfl (by decide +kernel) rfl rfl rfl rfl rfl rfl rfl (setX_hi rfl nX_hi) ?_
  refine gd_putL (CN := RX10) (T := TX10) (N := 19) (f := 7) (ty0 := tyX10) (fs' := [.ref (E.2.2 + 1), .ref (E.2.2 + 9), .ref (E.2.2 + 32), .ref (E.2.2 + 33), .ref (E.2.2 + 45), .ref (E.2.2 + 52), .ref (E.2.2 + 55), .ref (E.2.2 + 56), .null, .null, .null, .null, .int 0, .int 0, .int 0, .int 0, .int 0, .long 0, .long 0]) C hin dX10_init_86 rfl rfl rfl lay_X10 tyX10_ok nmX10 qf_X10_58 rfl rfl rfl rfl rfl ?_
  refine gb_aload_n C dX10_init_89 rfl rfl ?_
  refine gd_make (CN := RX0) (T := TX0) (N := 11) (ty := tyX0) (fs2 := z_X0) (ci2 := 0) C dX10_init_90 dX10_init_93 dX10_init_94 lay_X0 tyX0_ok qL_X10_62 qI_X0 ini_X0 rfl zd_X0 mk_58 ql_X10_64 qi_yX0_init ini_X0 qk_yX0_init rfl (by decide +kernel) rfl rfl rfl rfl rfl rfl rfl (setX_hi rfl nX_hi) ?_
  refine gd_putL (CN := RX10) (T := TX10) (N := 19) (f := 8) (ty0 := tyX10) (fs' := [.ref (E.2.2 + 1), .ref (E.2.2 + 9), .ref (E.2.2 + 32), .ref (E.2.2 + 33), .ref (E.2.2 + 45), .ref (E.2.2 + 52), .ref (E.2.2 + 55), .ref (E.2.2 + 56), .ref (E.2.2 + 58), .null, .null, .null, .int 0, .int 0, .int 0, .int 0, .int 0, .long 0, .long 0]) C hin dX10_init_97 rfl rfl rfl lay_X10 tyX10_ok nmX10 qf_X10_65 rfl rfl rfl rfl rfl ?_
  refine gb_aload_n C dX10_init_100 rfl rfl ?_
  refine gd_makeN (CN := RX3) (T := TX3) (N := 8) (ty := tyX3) (fs2 := z_X3) (ci2 := 3) C dX10_init_101 dX10_init_104 dX10_init_105 lay_X3 tyX3_ok qL_X10_69 qI_X3 ini_X3 rfl zd_X3 mk_81 (by decide) qi_yX3_init ini_X3 qk_yX3_init rfl (by decide +kernel) rfl rfl rfl rfl rfl rfl rfl (setX_hi rfl nX_hi) ?_
  refine gd_putL (CN := RX10) (T := TX10) (N := 19) (f := 9) (ty0 := tyX10) (fs' := [.ref (E.2.2 + 1), .ref (E.2.2 + 9), .ref (E.2.2 + 32), .ref (E.2.2 + 33), .ref (E.2.2 + 45), .ref (E.2.2 + 52), .ref (E.2.2 + 55), .ref (E.2.2 + 56), .ref (E.2.2 + 58), .ref (E.2.2 + 81), .null, .null, .int 0, .int 0, .int 0, .int 0, .int 0, .long 0, .long 0]) C hin dX10_init_108 rfl rfl rfl lay_X10 tyX10_ok nmX10 qf_X10_72 rfl rfl rfl rfl rfl ?_
  refine gb_aload_n C dX10_init_111 rfl rfl ?_
  refine gd_makeN (CN := RX4) (T := TX4) (N := 8) (ty := tyX4) (fs2 := z_X4) (ci2 := 4) C dX10_init_112 dX10_init_115 dX10_init_116 lay_X4 tyX4_ok qL_X10_76 qI_X4 ini_X4 rfl zd_X4 mk_84 (by decide) qi_yX4_init ini_X4 qk_yX4_init rfl (by decide +kernel) rfl rfl rfl rfl rfl rfl rfl (setX_hi rfl nX_hi) ?_
  refine gd_putL (CN := RX10) (T := TX10) (N := 19) (f := 10) (ty0 := tyX10) (fs' := [.ref (E.2.2 + 1), .ref (E.2.2 + 9), .ref (E.2.2 + 32), .ref (E.2.2 + 33), .ref (E.2.2 + 45), .ref (E.2.2 + 52), .ref (E.2.2 + 55), .ref (E.2.2 + 56), .ref (E.2.2 + 58), .ref (E.2.2 + 81), .ref (E.2.2 + 84), .null, .int 0, .int 0, .int 0, .int 0, .int 0, .long 0, .long 0]) C hin dX10_init_119 rfl rfl rfl lay_X10 tyX10_ok nmX10 qf_X10_79 rfl rfl rfl rfl rfl ?_
  refine gb_aload_n C dX10_init_122 rfl rfl ?_
  refine gd_makeN (CN := RX4) (T := TX4) (N := 8) (ty := tyX4) (fs2 := z_X4) (ci2 := 4) C dX10_init_123 dX10_init_126 dX10_init_127 lay_X4 tyX4_ok qL_X10_76 qI_X4 ini_X4 rfl zd_X4 mk_86 (by decide) qi_yX4_init ini_X4 qk_yX4_init rfl (by decide +kernel) rfl rfl rfl rfl rfl rfl rfl (setX_hi rfl nX_hi) ?_
  refine gd_putL (CN := RX10) (T := TX10) (N := 19) (f := 11) (ty0 := tyX10) (fs' := [.ref (E.2.2 + 1), .ref (E.2.2 + 9), .ref (E.2.2 + 32), .ref (E.2.2 + 33), .ref (E.2.2 + 45), .ref (E.2.2 + 52), .ref (E.2.2 + 55), .ref (E.2.2 + 56), .ref (E.2.2 + 58), .ref (E.2.2 + 81), .ref (E.2.2 + 84), .ref (E.2.2 + 86), .int 0, .int 0, .int 0, .int 0, .int 0, .long 0, .long 0]) C hin dX10_init_130 rfl rfl rfl lay_X10 tyX10_ok nmX10 qf_X10_83 rfl rfl rfl rfl rfl ?_
  refine gb_aload_n C dX10_init_133 rfl rfl ?_
  refine gb_iconst (v := nI 0) C dX10_init_134 (by decide) ?_
  refine gd_putL (CN := RX10) (T := TX10) (N := 19) (f := 12) (ty0 := tyX10) (fs' := [.ref (E.2.2 + 1), .ref (E.2.2 + 9), .ref (E.2.2 + 32), .ref (E.2.2 + 33), .ref (E.2.2 + 45), .ref (E.2.2 + 52), .ref (E.2.2 + 55), .ref (E.2.2 + 56), .ref (E.2.2 + 58), .ref (E.2.2 + 81), .ref (E.2.2 + 84), .ref (E.2.2 + 86), .int (nI 0), .int 0, .int 0, .int 0, .int 0, .long 0, .long 0]) C hin dX10_init_135 rfl rfl rfl lay_X10 tyX10_ok nmX10 qf_X10_86 rfl rfl rfl rfl rfl ?_
  refine gb_aload_n C dX10_init_138 rfl rfl ?_
  refine gb_iconst (v := nI 0) C dX10_init_139 (by decide) ?_
  refine gd_putL (CN := RX10) (T := TX10) (N := 19) (f := 13) (ty0 := tyX10) (fs' := [.ref (E.2.2 + 1), .ref (E.2.2 + 9), .ref (E.2.2 + 32), .ref (E.2.2 + 33), .ref (E.2.2 + 45), .ref (E.2.2 + 52), .ref (E.2.2 + 55), .ref (E.2.2 + 56), .ref (E.2.2 + 58), .ref (E.2.2 + 81), .ref (E.2.2 + 84), .ref (E.2.2 + 86), .int (nI 0), .int (nI 0), .int 0, .int 0, .int 0, .long 0, .long 0]) C hin dX10_init_140 rfl rfl rfl lay_X10 tyX10_ok nmX10 qf_X10_90 rfl rfl rfl rfl rfl ?_
  refine gb_aload_n C dX10_init_143 rfl rfl ?_
  refine gb_iconst (v := nI 0) C dX10_init_144 (by decide) ?_
  refine gd_putL (CN := RX10) (T := TX10) (N := 19) (f := 14) (ty0 := tyX10) (fs' := [.ref (E.2.2 + 1), .ref (E.2.2 + 9), .ref (E.2.2 + 32), .ref (E.2.2 + 33), .ref (E.2.2 + 45), .ref (E.2.2 + 52), .ref (E.2.2 + 55), .ref (E.2.2 + 56), .ref (E.2.2 + 58), .ref (E.2.2 + 81), .ref (E.2.2 + 84), .ref (E.2.2 + 86), .int (nI 0), .int (nI 0), .int (nI 0), .int 0, .int 0, .long 0, .long 0]) C hin dX10_init_145 rfl rfl rfl lay_X10 tyX10_ok nmX10 qf_X10_94 rfl rfl rfl rfl rfl ?_
  refine gb_aload_n C dX10_init_148 rfl rfl ?_
  refine gb_iconst (v := -1) C dX10_init_149 (by decide) ?_
  refine gd_putL (CN := RX10) (T := TX10) (N := 19) (f := 15) (ty0 := tyX10) (fs' := [.ref (E.2.2 + 1), .ref (E.2.2 + 9), .ref (E.2.2 + 32), .ref (E.2.2 + 33), .ref (E.2.2 + 45), .ref (E.2.2 + 52), .ref (E.2.2 + 55), .ref (E.2.2 + 56), .ref (E.2.2 + 58), .ref (E.2.2 + 81), .ref (E.2.2 + 84), .ref (E.2.2 + 86), .int (nI 0), .int (nI 0), .int (nI 0), .int (-1), .int 0, .long 0, .long 0]) C hin dX10_init_150 rfl rfl rfl lay_X10 tyX10_ok nmX10 qf_X10_97 rfl rfl rfl rfl rfl ?_
  refine gb_aload_n C dX10_init_153 rfl rfl ?_
  refine gb_iconst (v := -1) C dX10_init_154 (by decide) ?_
  refine gd_putL (CN := RX10) (T := TX10) (N := 19) (f := 16) (ty0 := tyX10) (fs' := [.ref (E.2.2 + 1), .ref (E.2.2 + 9), .ref (E.2.2 + 32), .ref (E.2.2 + 33), .ref (E.2.2 + 45), .ref (E.2.2 + 52), .ref (E.2.2 + 55), .ref (E.2.2 + 56), .ref (E.2.2 + 58), .ref (E.2.2 + 81), .ref (E.2.2 + 84), .ref (E.2.2 + 86), .int (nI 0), .int (nI 0), .int (nI 0), .int (-1), .int (-1), .long 0, .long 0]) C hin dX10_init_155 rfl rfl rfl lay_X10 tyX10_ok nmX10 qf_X10_100 rfl rfl rfl rfl rfl ?_
  refine gb_aload_n C dX10_init_158 rfl rfl ?_
  refine gb_lconst (v := 0) C dX10_init_159 (by decide) ?_
  refine gd_putL (CN := RX10) (T := TX10) (N := 19) (f := 17) (ty0 := tyX10) (fs' := [.ref (E.2.2 + 1), .ref (E.2.2 + 9), .ref (E.2.2 + 32), .ref (E.2.2 + 33), .ref (E.2.2 + 45), .ref (E.2.2 + 52), .ref (E.2.2 + 55), .ref (E.2.2 + 56), .ref (E.2.2 + 58), .ref (E.2.2 + 81), .ref (E.2.2 + 84), .ref (E.2.2 + 86), .int (nI 0), .int (nI 0), .int (nI 0), .int (-1), .int (-1), .long 0, .long 0]) C hin dX10_init_160 rfl rfl rfl lay_X10 tyX10_ok nmX10 qf_X10_103 rfl rfl rfl rfl rfl ?_
  refine gb_aload_n C dX10_init_163 rfl rfl ?_
  refine gb_lconst (v := 1) C dX10_init_164 (by decide) ?_
  refine gd_putL (CN := RX10) (T := TX10) (N := 19) (f := 18) (ty0 := tyX10) (fs' := [.ref (E.2.2 + 1), .ref (E.2.2 + 9), .ref (E.2.2 + 32), .ref (E.2.2 + 33), .ref (E.2.2 + 45), .ref (E.2.2 + 52), .ref (E.2.2 + 55), .ref (E.2.2 + 56), .ref (E.2.2 + 58), .ref (E.2.2 + 81), .ref (E.2.2 + 84), .ref (E.2.2 + 86), .int (nI 0), .int (nI 0), .int (nI 0), .int (-1), .int (-1), .long 0, .long 1]) C hin dX10_init_165 rfl rfl rfl lay_X10 tyX10_ok nmX10 qf_X10_107 rfl rfl rfl rfl rfl ?_
  refine gb_iconst (v := nI 0) C dX10_init_168 (by decide) ?_
  refine gb_istore_n C dX10_init_169 rfl rfl ?_
  refine gb_iload_n C dX10_init_170 rfl rfl ?_
  refine gb_iconst (v := nI 3) C dX10_init_171 (by decide) ?_
  refine gb_icmp_ge (tgt := 194) C dX10_init_172 (by decide) (fun h => absurd h (by decide)) (fun _ => ?_)
  refine gb_aload_n C dX10_init_175 rfl rfl ?_
  refine gd_getk (CN := RX10) (T := TX10) (N := 19) (f := 2) C dX10_init_176 rfl rfl rfl lay_X10 qf_X10_23 rfl rfl ?_
  refine gb_iload_n C dX10_init_179 rfl rfl ?_
  refine gd_makeN (CN := RX9) (T := TX9) (N := 3) (ty := tyX9) (fs2 := z_X9) (ci2 := 9) C dX10_init_180 dX10_init_183 dX10_init_184 lay_X9 tyX9_ok qL_X10_16 qI_X9 ini_X9 rfl zd_X9 mk_88 (by decide) qi_yX9_init ini_X9 qk_yX9_init rfl (by decide +kernel) rfl rfl rfl rfl rfl rfl rfl (setX_hi rfl nX_hi) ?_
  refine gd_aast (t := 3) C dX10_init_187 rfl rfl rfl rfl rfl rfl rfl rfl rfl (vp_in_nI (by decide) (by decide)) ?_
  refine gb_iinc (v := 1) C dX10_init_188 rfl (by decide) rfl ?_
  rw [show nI 0 + 1 = nI 1 from by decide]
  refine gb_goto (tgt := 170) C dX10_init_191 (by decide) ?_
  refine gb_iload_n C dX10_init_170 rfl rfl ?_
  refine gb_iconst (v := nI 3) C dX10_init_171 (by decide) ?_
  refine gb_icmp_ge (tgt := 194) C dX10_init_172 (by decide) (fun h => absurd h (by decide)) (fun _ => ?_)
  refine gb_aload_n C dX10_init_175 rfl rfl ?_
  refine gd_getk (CN := RX10) (T := TX10) (N := 19) (f := 2) C dX10_init_176 rfl rfl rfl lay_X10 qf_X10_23 rfl rfl ?_
  refine gb_iload_n C dX10_init_179 rfl rfl ?_
  refine gd_makeN (CN := RX9) (T := TX9) (N := 3) (ty := tyX9) (fs2 := z_X9) (ci2 := 9) C dX10_init_180 dX10_init_183 dX10_init_184 lay_X9 tyX9_ok qL_X10_16 qI_X9 ini_X9 rfl zd_X9 mk_111 (by decide) qi_yX9_init ini_X9 qk_yX9_init rfl (by decide +kernel) rfl rfl rfl rfl rfl rfl rfl (setX_hi rfl nX_hi) ?_
  refine gd_aast (t := 3) C dX10_init_187 rfl rfl rfl rfl rfl rfl rfl rfl rfl (vp_in_nI (by decide) (by decide)) ?_
  refine gb_iinc (v := 1) C dX10_init_188 rfl (by decide) rfl ?_
  rw [show nI 1 + 1 = nI 2 from by decide]
  refine gb_goto (tgt := 170) C dX10_init_191 (by decide) ?_
  refine gb_iload_n C dX10_init_170 rfl rfl ?_
  refine gb_iconst (v := nI 3) C dX10_init_171 (by decide) ?_
  refine gb_icmp_ge (tgt := 194) C dX10_init_172 (by decide) (fun h => absurd h (by decide)) (fun _ => ?_)
  refine gb_aload_n C dX10_init_175 rfl rfl ?_
  refine gd_getk (CN := RX10) (T := TX10) (N := 19) (f := 2) C dX10_init_176 rfl rfl rfl lay_X10 qf_X10_23 rfl rfl ?_
  refine gb_iload_n C dX10_init_179 rfl rfl ?_
  refine gd_makeN (CN := RX9) (T := TX9) (N := 3) (ty := tyX9) (fs2 := z_X9) (ci2 := 9) C dX10_init_180 dX10_init_183 dX10_init_184 lay_X9 tyX9_ok qL_X10_16 qI_X9 ini_X9 rfl zd_X9 mk_134 (by decide) qi_yX9_init ini_X9 qk_yX9_init rfl (by decide +kernel) rfl rfl rfl rfl rfl rfl rfl (setX_hi rfl nX_hi) ?_
  refine gd_aast (t := 3) C dX10_init_187 rfl rfl rfl rfl rfl rfl rfl rfl rfl (vp_in_nI (by decide) (by decide)) ?_
  refine gb_iinc (v := 1) C dX10_init_188 rfl (by decide) rfl ?_
  rw [show nI 2 + 1 = nI 3 from by decide]
  refine gb_goto (tgt := 170) C dX10_init_191 (by decide) ?_
  refine gb_iload_n C dX10_init_170 rfl rfl ?_
  refine gb_iconst (v := nI 3) C dX10_init_171 (by decide) ?_
  refine gb_icmp_ge (tgt := 194) C dX10_init_172 (by decide) (fun _ => ?_) (fun h => absurd (by decide) h)
  refine gd_drop (q := 32) rfl rfl (fun _ h => at_cgq (fun j hj => by match j, hj with | 0, _ => rfl | 1, _ => rfl | 2, _ => rfl) h) ?_
  exact gd_ret C R dX10_init_194 rfl rfl (fun _ => rfl)
