/-! ===== the reader and its reserved words ===== -/
def tS : List (Nat × Int64) := [(0, 0), (0, 10), (0, 341), (0, 10930), (0, 349775), (0, 11192818), (1, 0), (1, 12), (1, 389), (1, 12449), (1, 398382), (1, 12748243), (2, 0), (2, 12), (2, 389), (2, 12467), (2, 398963), (3, 0), (3, 19), (3, 628), (3, 20117), (3, 643746), (3, 20599874), (3, 659195983), (3, 21094271474), (3, 675016687182), (4, 0), (4, 16), (4, 530), (4, 16969), (4, 543011), (4, 17376357), (5, 0), (5, 19), (5, 631), (5, 20193), (5, 646201), (5, 20678451), (6, 0), (6, 16), (6, 530), (6, 16975), (6, 543215), (6, 17382886), (7, 0), (7, 23), (7, 741), (7, 23713), (7, 758836), (7, 24282760), (7, 777048325), (7, 24865546418), (8, 0), (8, 6), (8, 207), (8, 6636), (8, 212364), (8, 6795663), (8, 217461239), (8, 6958759667), (9, 0), (9, 7), (9, 245), (9, 7849), (9, 251180), (9, 8037780), (9, 257208985), (10, 0), (10, 6), (10, 210), (10, 6725), (10, 215205), (11, 0), (11, 3), (11, 114), (11, 3663), (11, 117232), (12, 0), (12, 15), (12, 494), (13, 0), (13, 8), (13, 277), (13, 8878), (13, 284103), (13, 9091301), (13, 290921650), (14, 0), (14, 12), (14, 385), (14, 12343), (15, 0), (15, 13), (15, 431), (15, 13811), (15, 441972), (16, 0), (16, 1), (16, 44), (16, 1420), (17, 0), (17, 20), (17, 663), (17, 21231), (18, 0), (18, 19), (18, 616), (18, 19727), (18, 631287), (19, 0), (19, 20), (19, 641), (19, 20524), (19, 656779), (20, 0), (20, 22), (20, 709), (20, 22706), (20, 726596), (20, 23251081), (20, 744034595), (20, 23809107060), (21, 0), (21, 19), (21, 628), (21, 20114), (21, 643657), (21, 20597035), (21, 659105125), (22, 0), (22, 19), (22, 613), (22, 19617), (22, 627764), (23, 0), (23, 2), (23, 82), (23, 2633), (23, 84258), (23, 2696261), (24, 0), (24, 13), (24, 431), (24, 13807), (24, 441828), (25, 0), (25, 23), (25, 744), (25, 23813), (25, 762030), (26, 0), (26, 22), (26, 719), (26, 23028), (26, 736901), (26, 23580851), (27, 0), (27, 12), (27, 399), (27, 12783), (27, 409072), (28, 0), (28, 5), (28, 174), (28, 5572), (29, 0), (29, 19), (29, 628), (29, 20111), (29, 643568), (30, 0)]
def tSw (j : Nat) : Nat := (tS.getD j (0, 0)).1
def tSa (j : Nat) : Int64 := (tS.getD j (0, 0)).2
theorem tS_ok : ∀ j, j < 170 → (if sBy.getD j 0 = 32 then tSw (j + 1) = tSw j + 1 ∧ tSa (j + 1) = 0 ∧ resW (tSw j) = tSa j else tSw (j + 1) = tSw j ∧ tSa (j + 1) = tSa j * 32 + (sBy.getD j 0 - 97 + 1).toInt64) ∧ tSw j < 30 := by decide +kernel
def rwF (x : Nat) : Nat → Int64 := fun i => if i < x then resW i else 0
theorem rwF_0 : rwF 0 = fun _ => 0 := funext (fun i => if_neg (by omega))
theorem rwF_s (x : Nat) : vp_updL (rwF x) x (resW x) = rwF (x + 1) := by
  funext i
  unfold vp_updL rwF
  by_cases h : i = x
  · rw [if_pos h, if_pos (by omega), h]
  · rw [if_neg h]
    by_cases h2 : i < x
    · rw [if_pos h2, if_pos (by omega)]
    · rw [if_neg h2, if_neg (by omega)]
section RDR
variable {E : wEnv} {Y : YT} {cc : ByteArray} {nL d n0 CC SS : Nat} {own : String} {D : Dw} {n c w pc ak av : Nat} {fm : Value} {lv : LV} {st : List Value}
theorem gb_ldcS (C : Cb E Y cc nL own d n0 CC SS) {idx : Nat} {tx : String} (hd : decode cc pc = .ok (.ldc idx, 2)) (hZ : vk_R own idx tx ak (ys Y)) (k : Gb E Y nL D n c w (pc + 2) lv (.ref ak :: st)) : Gb E Y nL D n c w pc lv st := by
  intro H locs ls hP hS hl
  exact va_ldcS C.x C.b C.o hZ hd (k H locs ls hP hS hl)
theorem gb_callZ (C : Cb E Y cc nL own d n0 CC SS) (hK : SK E ak av fm (ys Y) (ys Y).heap) {a index dd nL' : Nat} {y : MethodName} {cc' : ByteArray} {ret : Option FieldType} {As : List Value} {v : Option Value} (hcc : c ≤ CC) (hww : w ≤ SS) (hd : decode cc pc = .ok (.invokevirtual index, 3))
    (K : Ms E y cc' nL' ret dd ak av fm (.ref ak :: As) v) (hl : Cond.methodLink own index y ∈ WT) (hin : Cond.instanceMethod y ∈ WT) (hsel : Cond.selects "java/lang/String" y y ∈ WT) (hini : Cond.initialized y.cls ∈ WT) (hcode : Cond.code y cc' nL' ret ∈ WT)
    (hy : y.cls ≠ "java/lang/invoke/MethodHandle" ∧ y.cls ≠ "java/lang/invoke/VarHandle" ∧ (parseMethodDescriptor y.desc).map (fun d => d.parameters.length) = some a) (hn : As.length = a) (hdd : dd + 1 ≤ d) (hnL : nL' ≤ 45) {st0 : List Value} (hst0 : st0 = As.reverse ++ .ref ak :: st) (hst : Nat.ble (st.map fun v => v.category).sum 8 = true)
    (kk : Gb E Y nL D n c w (pc + 3) lv (v.toList ++ st)) : Gb E Y nL D n c w pc lv st0 := by
  intro H locs ls hP hS hl'
  exact wz_callV (d := d) ⟨C.x, C.b, C.2.2.1, C.o, C.t⟩ (hK.kept (fun a h1 h2 => hS.2.1 a h1 h2)) ⟨C.R.1, C.R.2.1⟩ ⟨Nat.le_trans hcc C.R.2.2.1, Nat.le_trans hww C.R.2.2.2⟩ hd K hl hin hsel hini hcode hy hn hdd hnL hst0 hst hl' (kk H locs ls hP hS hl')
end RDR
def lvR (E : wEnv) (k j : Nat) : LV := [(4, .int (nI j)), (2, .long (tSa j)), (1, .int (nI (tSw j))), (0, .ref (E.2.2 + k))]
def rwE (E : wEnv) (x : Nat) : va_E := .inl (E.2.1 2, 30, .inr (.inl (rwF x)))
theorem sLn_le {j : Nat} (h : j < 170) : ¬ sLn ≤ nI j := fun q => by
  have := nI_lt (show j < 170 from h) (by decide)
  exact absurd q (Int32.not_le.mpr this)
set_option maxRecDepth 20000 in
set_option maxHeartbeats 1000000 in
theorem rd_loop {E : wEnv} {Y : YT} {D0 : Dw} {fs : List Value} {ak av : Nat} {fm : Value} (C : Cb E Y cX5_init 6 RX5 4 53 2 930) (hR : vk_R RX5 51 sTx ak (ys Y)) (hK : SK E ak av fm (ys Y) (ys Y).heap) (hf : fs[1]? = some (.ref (E.2.2 + 54)))
    (kfin : Gb E Y 6 (DXb E 52 5 fs D0 (setX nX 54 (rwE E 30))) 55 2 930 146 [] []) : ∀ m j, j + m = 170 → Gb E Y 6 (DXb E 52 5 fs D0 (setX nX 54 (rwE E (tSw j)))) 55 2 930 78 (lvR E 52 j) [] := by
  intro m
  induction m with
  | zero =>
    intro j hj
    have hj : j = 170 := by omega
    subst hj
    refine gb_iload C dX5_init_78 rfl ?_
    refine gb_ldcS C dX5_init_80 hR ?_
    refine gb_callZ (a := 0) (As := []) C hK (by decide) (by decide) dX5_init_82 s_length ql_X5_53 qi_yJ0_length_8abf5 qv_yJ0_length_8abf5 ini_J0 qk_yJ0_length_8abf5 (by decide +kernel) rfl (by decide) (by decide) rfl rfl ?_
    refine gb_icmp_ge (tgt := 146) C dX5_init_85 (by decide) (fun _ => ?_) (fun h => absurd (by decide) h)
    exact gb_sub kfin trivial
  | succ m ih =>
    intro j hj
    have hj' : j < 170 := by omega
    obtain ⟨hs, hw⟩ := tS_ok j hj'
    refine gb_iload C dX5_init_78 rfl ?_
    refine gb_ldcS C dX5_init_80 hR ?_
    refine gb_callZ (a := 0) (As := []) C hK (by decide) (by decide) dX5_init_82 s_length ql_X5_53 qi_yJ0_length_8abf5 qv_yJ0_length_8abf5 ini_J0 qk_yJ0_length_8abf5 (by decide +kernel) rfl (by decide) (by decide) rfl rfl ?_
    refine gb_icmp_ge (tgt := 146) C dX5_init_85 (by decide) (fun h => absurd h (sLn_le hj')) (fun _ => ?_)
    refine gb_iload_n C dX5_init_88 rfl rfl ?_
    refine gb_bipush (v := nI 30) C dX5_init_89 (by decide) ?_
    refine gb_icmp_ge (tgt := 146) C dX5_init_91 (by decide) (fun h => absurd h (Int32.not_le.mpr (nI_lt hw (by decide)))) (fun _ => ?_)
    refine gb_ldcS C dX5_init_94 hR ?_
    refine gb_iload C dX5_init_96 rfl ?_
    refine gb_callZ (a := 1) (As := [.int (nI j)]) C hK (by decide) (by decide) dX5_init_98 (s_charAt hj') ql_X5_58 qi_yJ0_charAt_5068e qv_yJ0_charAt_5068e ini_J0 qk_yJ0_charAt_5068e (by decide +kernel) rfl (by decide) (by decide) rfl rfl ?_
    refine gb_istore C dX5_init_101 rfl ?_
    refine gb_iload C dX5_init_103 rfl ?_
    refine gb_bipush (v := 32) C dX5_init_105 (by decide) ?_
    refine gb_icmp_ne (tgt := 125) C dX5_init_107 (by decide) (fun h => ?_) (fun h => ?_)
    · rw [if_neg h] at hs
      refine gb_lload_n C dX5_init_125 rfl rfl ?_
      refine gb_ldc2 (v := 32) C dX5_init_126 qc_X5_62 ?_
      refine gb_lmul C dX5_init_129 ?_
      refine gb_iload C dX5_init_130 rfl ?_
      refine gb_bipush (v := 97) C dX5_init_132 (by decide) ?_
      refine gb_isub C dX5_init_134 ?_
      refine gb_iconst (v := 1) C dX5_init_135 (by decide) ?_
      refine gb_iadd C dX5_init_136 ?_
      refine gb_i2l C dX5_init_137 rfl ?_
      refine gb_ladd C dX5_init_138 ?_
      refine gb_lstore_n C dX5_init_139 rfl rfl ?_
      refine gb_iinc (v := 1) C dX5_init_140 rfl (by decide) rfl ?_
      refine gb_goto (tgt := 78) C dX5_init_143 (by decide) ?_
      have k2 := ih (j + 1) (by omega)
      rw [hs.1] at k2
      refine gb_sub k2 ⟨?_, ?_, ?_, ?_, trivial⟩
      · show some (Value.int (nI j + 1)) = some (.int (nI (j + 1)))
        rw [nI_1]
      · show _ = some (Value.long (tSa (j + 1)))
        rw [hs.2]
        rfl
      · show _ = some (Value.int (nI (tSw (j + 1))))
        rw [hs.1]
        rfl
      · rfl
    · rw [if_pos h] at hs
      refine gb_aload_n C dX5_init_110 rfl rfl ?_
      refine gd_getk (CN := RX5) (T := TX5) (N := 12) (f := 1) C dX5_init_111 rfl rfl rfl lay_X5 qf_X5_15 rfl hf ?_
      refine gb_iload_n C dX5_init_114 rfl rfl ?_
      refine gb_lload_n C dX5_init_115 rfl rfl ?_
      refine gd_last C dX5_init_116 rfl rfl (vp_in_nI hw (by decide)) ?_
      refine gb_iinc (v := 1) C dX5_init_117 rfl (by decide) rfl ?_
      refine gb_lconst (v := 0) C dX5_init_120 (by decide) ?_
      refine gb_lstore_n C dX5_init_121 rfl rfl ?_
      refine gb_goto (tgt := 140) C dX5_init_122 (by decide) ?_
      refine gb_iinc (v := 1) C dX5_init_140 rfl (by decide) rfl ?_
      refine gb_goto (tgt := 78) C dX5_init_143 (by decide) ?_
      have k2 := ih (j + 1) (by omega)
      rw [hs.1] at k2
      rw [nI_clamp (by omega), ← hs.2.2, rwF_s]
      refine gb_sub k2 ⟨?_, ?_, ?_, ?_, trivial⟩
      · show some (Value.int (nI j + 1)) = some (.int (nI (j + 1)))
        rw [nI_1]
      · show _ = some (Value.long (tSa (j + 1)))
        rw [hs.2.1]
        rfl
      · show _ = some (Value.int (nI (tSw (j + 1))))
        rw [hs.1]
        exact congrArg (fun z => some (Value.int z)) (nI_1 _)
      · rfl
set_option maxRecDepth 20000 in
set_option maxHeartbeats 1000000 in
theorem mk_52 {E : wEnv} : ∀ D : Dw, D 52 = .inr (5, z_X5) → Mb E yX5_init cX5_init 6 4 2 930 52 D 53 (dF E 52 D) 55 := by
  intro D hD
  refine mb_intro (own := RX5) (by decide) rfl rfl (by decide) (fun Y C hin R => ?_)
  refine gd_start (k := 52) hD ?_
  refine gb_aload_n C dX5_init_0 rfl rfl ?_
  refine gb_objInit C dX5_init_1 qO_X5 qO_inst qO_code rfl ?_
  refine gb_aload_n C dX5_init_4 rfl rfl ?_
  refine gb_sipush (v := nI 900) C dX5_init_5 (by decide) ?_
  refine gd_newa (ty := .byte) (t := 1) (N := 900) (a0 := (900, .inl (fun _ => 0))) C rfl (Or.inr (Or.inl rfl)) dX5_init_8 qA_byte rfl (fun _ => rfl) rfl rfl rfl rfl rfl rfl (Or.inl ⟨rfl, rfl⟩) ?_
  refine gd_putL (CN := RX5) (T := TX5) (N := 12) (f := 0) (ty0 := tyX5) (fs' := [.ref (E.2.2 + 53), .null, .int 0, .int 0, .int 0, .int 0, .int 0, .int 0, .long 0, .int 0, .int 0, .int 0]) C hin dX5_init_10 rfl rfl rfl lay_X5 tyX5_ok nmX5 qf_X5_9 rfl rfl rfl rfl rfl ?_
  refine gb_aload_n C dX5_init_13 rfl rfl ?_
  refine gb_bipush (v := nI 30) C dX5_init_14 (by decide) ?_
  refine gd_cx (X' := setX nX 54 (.inl (E.2.1 2, (30, .inr (.inl (fun _ => 0)))))) (fun j hj => if_neg (by omega)) ?_
  refine gd_newa (ty := .long) (t := 2) (N := 30) (a0 := (30, .inr (.inl (fun _ => 0)))) C rfl (Or.inr (Or.inr rfl)) dX5_init_16 qA_long rfl (fun _ => rfl) rfl rfl rfl rfl rfl rfl (Or.inr setX_at) ?_
  refine gd_putL (CN := RX5) (T := TX5) (N := 12) (f := 1) (ty0 := tyX5) (fs' := [.ref (E.2.2 + 53), .ref (E.2.2 + 54), .int 0, .int 0, .int 0, .int 0, .int 0, .int 0, .long 0, .int 0, .int 0, .int 0]) C hin dX5_init_18 rfl rfl rfl lay_X5 tyX5_ok nmX5 qf_X5_15 rfl rfl rfl rfl rfl ?_
  refine gb_aload_n C dX5_init_21 rfl rfl ?_
  refine gb_iconst (v := nI 0) C dX5_init_22 (by decide) ?_
  refine gd_putL (CN := RX5) (T := TX5) (N := 12) (f := 2) (ty0 := tyX5) (fs' := [.ref (E.2.2 + 53), .ref (E.2.2 + 54), .int (nI 0), .int 0, .int 0, .int 0, .int 0, .int 0, .long 0, .int 0, .int 0, .int 0]) C hin dX5_init_23 rfl rfl rfl lay_X5 tyX5_ok nmX5 qf_X5_19 rfl rfl rfl rfl rfl ?_
  refine gb_aload_n C dX5_init_26 rfl rfl ?_
  refine gb_iconst (v := nI 0) C dX5_init_27 (by decide) ?_
  refine gd_putL (CN := RX5) (T := TX5) (N := 12) (f := 3) (ty0 := tyX5) (fs' := [.ref (E.2.2 + 53), .ref (E.2.2 + 54), .int (nI 0), .int (nI 0), .int 0, .int 0, .int 0, .int 0, .long 0, .int 0, .int 0, .int 0]) C hin dX5_init_28 rfl rfl rfl lay_X5 tyX5_ok nmX5 qf_X5_23 rfl rfl rfl rfl rfl ?_
  refine gb_aload_n C dX5_init_31 rfl rfl ?_
  refine gb_iconst (v := nI 0) C dX5_init_32 (by decide) ?_
  refine gd_putL (CN := RX5) (T := TX5) (N := 12) (f := 4) (ty0 := tyX5) (fs' := [.ref (E.2.2 + 53), .ref (E.2.2 + 54), .int (nI 0), .int (nI 0), .int (nI 0), .int 0, .int 0, .int 0, .long 0, .int 0, .int 0, .int 0]) C hin dX5_init_33 rfl rfl rfl lay_X5 tyX5_ok nmX5 qf_X5_26 rfl rfl rfl rfl rfl ?_
  refine gb_aload_n C dX5_init_36 rfl rfl ?_
  refine gb_iconst (v := nI 0) C dX5_init_37 (by decide) ?_
  refine gd_putL (CN := RX5) (T := TX5) (N := 12) (f := 5) (ty0 := tyX5) (fs' := [.ref (E.2.2 + 53), .ref (E.2.2 + 54), .int (nI 0), .int (nI 0), .int (nI 0), .int (nI 0), .int 0, .int 0, .long 0, .int 0, .int 0, .int 0]) C hin dX5_init_38 rfl rfl rfl lay_X5 tyX5_ok nmX5 qf_X5_29 rfl rfl rfl rfl rfl ?_
  refine gb_aload_n C dX5_init_41 rfl rfl ?_
  refine gb_iconst (v := nI 0) C dX5_init_42 (by decide) ?_
  refine gd_putL (CN := RX5) (T := TX5) (N := 12) (f := 6) (ty0 := tyX5) (fs' := [.ref (E.2.2 + 53), .ref (E.2.2 + 54), .int (nI 0), .int (nI 0), .int (nI 0), .int (nI 0), .int (nI 0), .int 0, .long 0, .int 0, .int 0, .int 0]) C hin dX5_init_43 rfl rfl rfl lay_X5 tyX5_ok nmX5 qf_X5_32 rfl rfl rfl rfl rfl ?_
  refine gb_aload_n C dX5_init_46 rfl rfl ?_
  refine gb_iconst (v := -1) C dX5_init_47 (by decide) ?_
  refine gd_putL (CN := RX5) (T := TX5) (N := 12) (f := 7) (ty0 := tyX5) (fs' := [.ref (E.2.2 + 53), .ref (E.2.2 + 54), .int (nI 0), .int (nI 0), .int (nI 0), .int (nI 0), .int (nI 0), .int (-1), .long 0, .int 0, .int 0, .int 0]) C hin dX5_init_48 rfl rfl rfl lay_X5 tyX5_ok nmX5 qf_X5_35 rfl rfl rfl rfl rfl ?_
  refine gb_aload_n C dX5_init_51 rfl rfl ?_
  refine gb_lconst (v := 0) C dX5_init_52 (by decide) ?_
  refine gd_putL (CN := RX5) (T := TX5) (N := 12) (f := 8) (ty0 := tyX5) (fs' := [.ref (E.2.2 + 53), .ref (E.2.2 + 54), .int (nI 0), .int (nI 0), .int (nI 0), .int (nI 0), .int (nI 0), .int (-1), .long 0, .int 0, .int 0, .int 0]) C hin dX5_init_53 rfl rfl rfl lay_X5 tyX5_ok nmX5 qf_X5_38 rfl rfl rfl rfl rfl ?_
  refine gb_aload_n C dX5_init_56 rfl rfl ?_
  refine gb_iconst (v := nI 0) C dX5_init_57 (by decide) ?_
  refine gd_putL (CN := RX5) (T := TX5) (N := 12) (f := 9) (ty0 := tyX5) (fs' := [.ref (E.2.2 + 53), .ref (E.2.2 + 54), .int (nI 0), .int (nI 0), .int (nI 0), .int (nI 0), .int (nI 0), .int (-1), .long 0, .int (nI 0), .int 0, .int 0]) C hin dX5_init_58 rfl rfl rfl lay_X5 tyX5_ok nmX5 qf_X5_42 rfl rfl rfl rfl rfl ?_
  refine gb_aload_n C dX5_init_61 rfl rfl ?_
  refine gb_iconst (v := nI 0) C dX5_init_62 (by decide) ?_
  refine gd_putL (CN := RX5) (T := TX5) (N := 12) (f := 10) (ty0 := tyX5) (fs' := [.ref (E.2.2 + 53), .ref (E.2.2 + 54), .int (nI 0), .int (nI 0), .int (nI 0), .int (nI 0), .int (nI 0), .int (-1), .long 0, .int (nI 0), .int (nI 0), .int 0]) C hin dX5_init_63 rfl rfl rfl lay_X5 tyX5_ok nmX5 qf_X5_45 rfl rfl rfl rfl rfl ?_
  refine gb_aload_n C dX5_init_66 rfl rfl ?_
  refine gb_iconst (v := -1) C dX5_init_67 (by decide) ?_
  refine gd_putL (CN := RX5) (T := TX5) (N := 12) (f := 11) (ty0 := tyX5) (fs' := [.ref (E.2.2 + 53), .ref (E.2.2 + 54), .int (nI 0), .int (nI 0), .int (nI 0), .int (nI 0), .int (nI 0), .int (-1), .long 0, .int (nI 0), .int (nI 0), .int (-1)]) C hin dX5_init_68 rfl rfl rfl lay_X5 tyX5_ok nmX5 qf_X5_48 rfl rfl rfl rfl rfl ?_
  obtain ⟨ak, av, fm, hR, h1, h2, h3, h4⟩ := C.Z.2.2
  refine gb_iconst (v := nI 0) C dX5_init_71 (by decide) ?_
  refine gb_istore_n C dX5_init_72 rfl rfl ?_
  refine gb_lconst (v := 0) C dX5_init_73 (by decide) ?_
  refine gb_lstore_n C dX5_init_74 rfl rfl ?_
  refine gb_iconst (v := nI 0) C dX5_init_75 (by decide) ?_
  refine gb_istore C dX5_init_76 rfl ?_
  rw [← rwF_0]
  refine gb_sub (rd_loop C hR ⟨h1, h2, h3, h4⟩ rfl ?_ 170 0 rfl) ⟨rfl, rfl, rfl, rfl, trivial⟩
  refine gd_drop (q := 54) rfl rfl (fun _ h => h) ?_
  exact gd_ret C R dX5_init_146 rfl rfl (fun _ => rfl)
