theorem dX4_countDay_38 : decode cX4_countDay 38 = .ok (.iconst 1, 1) := by decide +kernel
theorem dX4_countDay_39 : decode cX4_countDay 39 = .ok (.goto 4, 3) := by decide +kernel
theorem dX4_countDay_42 : decode cX4_countDay 42 = .ok (.iconst 0, 1) := by decide +kernel
theorem dX4_countDay_43 : decode cX4_countDay 43 = .ok (.iadd, 1) := by decide +kernel
theorem dX4_countDay_44 : decode cX4_countDay 44 = .ok (.putfield 31, 3) := by decide +kernel
theorem dX4_countDay_47 : decode cX4_countDay 47 = .ok (.return_, 1) := by decide +kernel
theorem dX4_feelMood_0 : decode cX4_feelMood 0 = .ok (.iconst 0, 1) := by decide +kernel
theorem dX4_feelMood_1 : decode cX4_feelMood 1 = .ok (.istore_n 3, 1) := by decide +kernel
theorem dX4_feelMood_2 : decode cX4_feelMood 2 = .ok (.iload_n 3, 1) := by decide +kernel
theorem dX4_feelMood_3 : decode cX4_feelMood 3 = .ok (.aload_n 1, 1) := by decide +kernel
theorem dX4_feelMood_4 : decode cX4_feelMood 4 = .ok (.getfield 151, 3) := by decide +kernel
theorem dX4_feelMood_7 : decode cX4_feelMood 7 = .ok (.iconst 0, 1) := by decide +kernel
theorem dX4_feelMood_8 : decode cX4_feelMood 8 = .ok (.iaload, 1) := by decide +kernel
theorem dX4_feelMood_9 : decode cX4_feelMood 9 = .ok (.if_icmp .ge 31, 3) := by decide +kernel
theorem dX4_feelMood_12 : decode cX4_feelMood 12 = .ok (.aload_n 2, 1) := by decide +kernel
theorem dX4_feelMood_13 : decode cX4_feelMood 13 = .ok (.iload_n 3, 1) := by decide +kernel
theorem dX4_feelMood_14 : decode cX4_feelMood 14 = .ok (.invokevirtual 144, 3) := by decide +kernel
theorem dX4_feelMood_17 : decode cX4_feelMood 17 = .ok (.ifCond .eq 17, 3) := by decide +kernel
theorem dX4_feelMood_20 : decode cX4_feelMood 20 = .ok (.aload_n 2, 1) := by decide +kernel
theorem dX4_feelMood_21 : decode cX4_feelMood 21 = .ok (.iload_n 3, 1) := by decide +kernel
theorem dX4_feelMood_22 : decode cX4_feelMood 22 = .ok (.aload_n 0, 1) := by decide +kernel
theorem dX4_feelMood_23 : decode cX4_feelMood 23 = .ok (.bipush 9, 2) := by decide +kernel
theorem dX4_feelMood_25 : decode cX4_feelMood 25 = .ok (.invokevirtual 156, 3) := by decide +kernel
theorem dX4_feelMood_28 : decode cX4_feelMood 28 = .ok (.iconst 4, 1) := by decide +kernel
theorem dX4_feelMood_29 : decode cX4_feelMood 29 = .ok (.isub, 1) := by decide +kernel
theorem dX4_feelMood_30 : decode cX4_feelMood 30 = .ok (.invokevirtual 160, 3) := by decide +kernel
theorem dX4_feelMood_33 : decode cX4_feelMood 33 = .ok (.pop, 1) := by decide +kernel
theorem dX4_feelMood_34 : decode cX4_feelMood 34 = .ok (.iinc 3 1, 3) := by decide +kernel
theorem dX4_feelMood_37 : decode cX4_feelMood 37 = .ok (.goto (-35), 3) := by decide +kernel
theorem dX4_feelMood_40 : decode cX4_feelMood 40 = .ok (.return_, 1) := by decide +kernel
theorem dX4_drawBy_0 : decode cX4_drawBy 0 = .ok (.aload_n 0, 1) := by decide +kernel
theorem dX4_drawBy_1 : decode cX4_drawBy 1 = .ok (.aload_n 0, 1) := by decide +kernel
theorem dX4_drawBy_2 : decode cX4_drawBy 2 = .ok (.getfield 15, 3) := by decide +kernel
theorem dX4_drawBy_5 : decode cX4_drawBy 5 = .ok (.sipush 2927, 3) := by decide +kernel
theorem dX4_drawBy_8 : decode cX4_drawBy 8 = .ok (.imul, 1) := by decide +kernel
theorem dX4_drawBy_9 : decode cX4_drawBy 9 = .ok (.sipush 10627, 3) := by decide +kernel
theorem dX4_drawBy_12 : decode cX4_drawBy 12 = .ok (.iadd, 1) := by decide +kernel
theorem dX4_drawBy_13 : decode cX4_drawBy 13 = .ok (.ldc 164, 2) := by decide +kernel
theorem dX4_drawBy_15 : decode cX4_drawBy 15 = .ok (.irem, 1) := by decide +kernel
theorem dX4_drawBy_16 : decode cX4_drawBy 16 = .ok (.putfield 15, 3) := by decide +kernel
theorem dX4_drawBy_19 : decode cX4_drawBy 19 = .ok (.iload_n 1, 1) := by decide +kernel
theorem dX4_drawBy_20 : decode cX4_drawBy 20 = .ok (.ifCond .le 15, 3) := by decide +kernel
theorem dX4_drawBy_23 : decode cX4_drawBy 23 = .ok (.aload_n 0, 1) := by decide +kernel
theorem dX4_drawBy_24 : decode cX4_drawBy 24 = .ok (.getfield 15, 3) := by decide +kernel
theorem dX4_drawBy_27 : decode cX4_drawBy 27 = .ok (.bipush 8, 2) := by decide +kernel
theorem dX4_drawBy_29 : decode cX4_drawBy 29 = .ok (.idiv, 1) := by decide +kernel
theorem dX4_drawBy_30 : decode cX4_drawBy 30 = .ok (.iload_n 1, 1) := by decide +kernel
theorem dX4_drawBy_31 : decode cX4_drawBy 31 = .ok (.irem, 1) := by decide +kernel
theorem dX4_drawBy_32 : decode cX4_drawBy 32 = .ok (.goto 4, 3) := by decide +kernel
theorem dX4_drawBy_35 : decode cX4_drawBy 35 = .ok (.iconst 0, 1) := by decide +kernel
theorem dX4_drawBy_36 : decode cX4_drawBy 36 = .ok (.ireturn, 1) := by decide +kernel
theorem dX5_init_0 : decode cX5_init 0 = .ok (.aload_n 0, 1) := by decide +kernel
theorem dX5_init_1 : decode cX5_init 1 = .ok (.invokespecial 3, 3) := by decide +kernel
theorem dX5_init_4 : decode cX5_init 4 = .ok (.aload_n 0, 1) := by decide +kernel
theorem dX5_init_5 : decode cX5_init 5 = .ok (.sipush 900, 3) := by decide +kernel
theorem dX5_init_8 : decode cX5_init 8 = .ok (.newarray .byte, 2) := by decide +kernel
theorem dX5_init_10 : decode cX5_init 10 = .ok (.putfield 9, 3) := by decide +kernel
theorem dX5_init_13 : decode cX5_init 13 = .ok (.aload_n 0, 1) := by decide +kernel
theorem dX5_init_14 : decode cX5_init 14 = .ok (.bipush 30, 2) := by decide +kernel
theorem dX5_init_16 : decode cX5_init 16 = .ok (.newarray .long, 2) := by decide +kernel
theorem dX5_init_18 : decode cX5_init 18 = .ok (.putfield 15, 3) := by decide +kernel
theorem dX5_init_21 : decode cX5_init 21 = .ok (.aload_n 0, 1) := by decide +kernel
theorem dX5_init_22 : decode cX5_init 22 = .ok (.iconst 0, 1) := by decide +kernel
theorem dX5_init_23 : decode cX5_init 23 = .ok (.putfield 19, 3) := by decide +kernel
theorem dX5_init_26 : decode cX5_init 26 = .ok (.aload_n 0, 1) := by decide +kernel
theorem dX5_init_27 : decode cX5_init 27 = .ok (.iconst 0, 1) := by decide +kernel
theorem dX5_init_28 : decode cX5_init 28 = .ok (.putfield 23, 3) := by decide +kernel
theorem dX5_init_31 : decode cX5_init 31 = .ok (.aload_n 0, 1) := by decide +kernel
theorem dX5_init_32 : decode cX5_init 32 = .ok (.iconst 0, 1) := by decide +kernel
theorem dX5_init_33 : decode cX5_init 33 = .ok (.putfield 26, 3) := by decide +kernel
theorem dX5_init_36 : decode cX5_init 36 = .ok (.aload_n 0, 1) := by decide +kernel
theorem dX5_init_37 : decode cX5_init 37 = .ok (.iconst 0, 1) := by decide +kernel
theorem dX5_init_38 : decode cX5_init 38 = .ok (.putfield 29, 3) := by decide +kernel
theorem dX5_init_41 : decode cX5_init 41 = .ok (.aload_n 0, 1) := by decide +kernel
theorem dX5_init_42 : decode cX5_init 42 = .ok (.iconst 0, 1) := by decide +kernel
theorem dX5_init_43 : decode cX5_init 43 = .ok (.putfield 32, 3) := by decide +kernel
theorem dX5_init_46 : decode cX5_init 46 = .ok (.aload_n 0, 1) := by decide +kernel
theorem dX5_init_47 : decode cX5_init 47 = .ok (.iconst (-1), 1) := by decide +kernel
theorem dX5_init_48 : decode cX5_init 48 = .ok (.putfield 35, 3) := by decide +kernel
theorem dX5_init_51 : decode cX5_init 51 = .ok (.aload_n 0, 1) := by decide +kernel
theorem dX5_init_52 : decode cX5_init 52 = .ok (.lconst 0, 1) := by decide +kernel
theorem dX5_init_53 : decode cX5_init 53 = .ok (.putfield 38, 3) := by decide +kernel
theorem dX5_init_56 : decode cX5_init 56 = .ok (.aload_n 0, 1) := by decide +kernel
theorem dX5_init_57 : decode cX5_init 57 = .ok (.iconst 0, 1) := by decide +kernel
theorem dX5_init_58 : decode cX5_init 58 = .ok (.putfield 42, 3) := by decide +kernel
theorem dX5_init_61 : decode cX5_init 61 = .ok (.aload_n 0, 1) := by decide +kernel
theorem dX5_init_62 : decode cX5_init 62 = .ok (.iconst 0, 1) := by decide +kernel
theorem dX5_init_63 : decode cX5_init 63 = .ok (.putfield 45, 3) := by decide +kernel
theorem dX5_init_66 : decode cX5_init 66 = .ok (.aload_n 0, 1) := by decide +kernel
theorem dX5_init_67 : decode cX5_init 67 = .ok (.iconst (-1), 1) := by decide +kernel
theorem dX5_init_68 : decode cX5_init 68 = .ok (.putfield 48, 3) := by decide +kernel
theorem dX5_init_71 : decode cX5_init 71 = .ok (.iconst 0, 1) := by decide +kernel
theorem dX5_init_72 : decode cX5_init 72 = .ok (.istore_n 1, 1) := by decide +kernel
theorem dX5_init_73 : decode cX5_init 73 = .ok (.lconst 0, 1) := by decide +kernel
theorem dX5_init_74 : decode cX5_init 74 = .ok (.lstore_n 2, 1) := by decide +kernel
theorem dX5_init_75 : decode cX5_init 75 = .ok (.iconst 0, 1) := by decide +kernel
theorem dX5_init_76 : decode cX5_init 76 = .ok (.istore 4, 2) := by decide +kernel
theorem dX5_init_78 : decode cX5_init 78 = .ok (.iload 4, 2) := by decide +kernel
theorem dX5_init_80 : decode cX5_init 80 = .ok (.ldc 51, 2) := by decide +kernel
theorem dX5_init_82 : decode cX5_init 82 = .ok (.invokevirtual 53, 3) := by decide +kernel
theorem dX5_init_85 : decode cX5_init 85 = .ok (.if_icmp .ge 61, 3) := by decide +kernel
theorem dX5_init_88 : decode cX5_init 88 = .ok (.iload_n 1, 1) := by decide +kernel
theorem dX5_init_89 : decode cX5_init 89 = .ok (.bipush 30, 2) := by decide +kernel
theorem dX5_init_91 : decode cX5_init 91 = .ok (.if_icmp .ge 55, 3) := by decide +kernel
theorem dX5_init_94 : decode cX5_init 94 = .ok (.ldc 51, 2) := by decide +kernel
theorem dX5_init_96 : decode cX5_init 96 = .ok (.iload 4, 2) := by decide +kernel
theorem dX5_init_98 : decode cX5_init 98 = .ok (.invokevirtual 58, 3) := by decide +kernel
theorem dX5_init_101 : decode cX5_init 101 = .ok (.istore 5, 2) := by decide +kernel
theorem dX5_init_103 : decode cX5_init 103 = .ok (.iload 5, 2) := by decide +kernel
theorem dX5_init_105 : decode cX5_init 105 = .ok (.bipush 32, 2) := by decide +kernel
theorem dX5_init_107 : decode cX5_init 107 = .ok (.if_icmp .ne 18, 3) := by decide +kernel
theorem dX5_init_110 : decode cX5_init 110 = .ok (.aload_n 0, 1) := by decide +kernel
theorem dX5_init_111 : decode cX5_init 111 = .ok (.getfield 15, 3) := by decide +kernel
theorem dX5_init_114 : decode cX5_init 114 = .ok (.iload_n 1, 1) := by decide +kernel
theorem dX5_init_115 : decode cX5_init 115 = .ok (.lload_n 2, 1) := by decide +kernel
theorem dX5_init_116 : decode cX5_init 116 = .ok (.lastore, 1) := by decide +kernel
theorem dX5_init_117 : decode cX5_init 117 = .ok (.iinc 1 1, 3) := by decide +kernel
theorem dX5_init_120 : decode cX5_init 120 = .ok (.lconst 0, 1) := by decide +kernel
theorem dX5_init_121 : decode cX5_init 121 = .ok (.lstore_n 2, 1) := by decide +kernel
theorem dX5_init_122 : decode cX5_init 122 = .ok (.goto 18, 3) := by decide +kernel
theorem dX5_init_125 : decode cX5_init 125 = .ok (.lload_n 2, 1) := by decide +kernel
theorem dX5_init_126 : decode cX5_init 126 = .ok (.ldc2_w 62, 3) := by decide +kernel
theorem dX5_init_129 : decode cX5_init 129 = .ok (.lmul, 1) := by decide +kernel
theorem dX5_init_130 : decode cX5_init 130 = .ok (.iload 5, 2) := by decide +kernel
theorem dX5_init_132 : decode cX5_init 132 = .ok (.bipush 97, 2) := by decide +kernel
theorem dX5_init_134 : decode cX5_init 134 = .ok (.isub, 1) := by decide +kernel
theorem dX5_init_135 : decode cX5_init 135 = .ok (.iconst 1, 1) := by decide +kernel
theorem dX5_init_136 : decode cX5_init 136 = .ok (.iadd, 1) := by decide +kernel
theorem dX5_init_137 : decode cX5_init 137 = .ok (.i2l, 1) := by decide +kernel
theorem dX5_init_138 : decode cX5_init 138 = .ok (.ladd, 1) := by decide +kernel
theorem dX5_init_139 : decode cX5_init 139 = .ok (.lstore_n 2, 1) := by decide +kernel
theorem dX5_init_140 : decode cX5_init 140 = .ok (.iinc 4 1, 3) := by decide +kernel
theorem dX5_init_143 : decode cX5_init 143 = .ok (.goto (-65), 3) := by decide +kernel
theorem dX5_init_146 : decode cX5_init 146 = .ok (.return_, 1) := by decide +kernel
theorem dX5_hasRoom_0 : decode cX5_hasRoom 0 = .ok (.aload_n 0, 1) := by decide +kernel
theorem dX5_hasRoom_1 : decode cX5_hasRoom 1 = .ok (.getfield 19, 3) := by decide +kernel
theorem dX5_hasRoom_4 : decode cX5_hasRoom 4 = .ok (.iload_n 1, 1) := by decide +kernel
theorem dX5_hasRoom_5 : decode cX5_hasRoom 5 = .ok (.iadd, 1) := by decide +kernel
theorem dX5_hasRoom_6 : decode cX5_hasRoom 6 = .ok (.sipush 900, 3) := by decide +kernel
theorem dX5_hasRoom_9 : decode cX5_hasRoom 9 = .ok (.if_icmp .gt 7, 3) := by decide +kernel
theorem dX5_hasRoom_12 : decode cX5_hasRoom 12 = .ok (.iconst 1, 1) := by decide +kernel
theorem dX5_hasRoom_13 : decode cX5_hasRoom 13 = .ok (.goto 4, 3) := by decide +kernel
theorem dX5_hasRoom_16 : decode cX5_hasRoom 16 = .ok (.iconst 0, 1) := by decide +kernel
theorem dX5_hasRoom_17 : decode cX5_hasRoom 17 = .ok (.ireturn, 1) := by decide +kernel
theorem dX5_append_0 : decode cX5_append 0 = .ok (.bipush 24, 2) := by decide +kernel
theorem dX5_append_2 : decode cX5_append 2 = .ok (.istore_n 2, 1) := by decide +kernel
theorem dX5_append_3 : decode cX5_append 3 = .ok (.iload_n 2, 1) := by decide +kernel
theorem dX5_append_4 : decode cX5_append 4 = .ok (.ifCond .lt 42, 3) := by decide +kernel
theorem dX5_append_7 : decode cX5_append 7 = .ok (.aload_n 0, 1) := by decide +kernel
theorem dX5_append_8 : decode cX5_append 8 = .ok (.getfield 19, 3) := by decide +kernel
theorem dX5_append_11 : decode cX5_append 11 = .ok (.sipush 900, 3) := by decide +kernel
theorem dX5_append_14 : decode cX5_append 14 = .ok (.if_icmp .ge 32, 3) := by decide +kernel
theorem dX5_append_17 : decode cX5_append 17 = .ok (.aload_n 0, 1) := by decide +kernel
theorem dX5_append_18 : decode cX5_append 18 = .ok (.getfield 9, 3) := by decide +kernel
theorem dX5_append_21 : decode cX5_append 21 = .ok (.aload_n 0, 1) := by decide +kernel
theorem dX5_append_22 : decode cX5_append 22 = .ok (.getfield 19, 3) := by decide +kernel
theorem dX5_append_25 : decode cX5_append 25 = .ok (.iload_n 1, 1) := by decide +kernel
theorem dX5_append_26 : decode cX5_append 26 = .ok (.iload_n 2, 1) := by decide +kernel
theorem dX5_append_27 : decode cX5_append 27 = .ok (.ishr, 1) := by decide +kernel
theorem dX5_append_28 : decode cX5_append 28 = .ok (.i2b, 1) := by decide +kernel
theorem dX5_append_29 : decode cX5_append 29 = .ok (.bastore, 1) := by decide +kernel
theorem dX5_append_30 : decode cX5_append 30 = .ok (.aload_n 0, 1) := by decide +kernel
theorem dX5_append_31 : decode cX5_append 31 = .ok (.dup, 1) := by decide +kernel
theorem dX5_append_32 : decode cX5_append 32 = .ok (.getfield 19, 3) := by decide +kernel
theorem dX5_append_35 : decode cX5_append 35 = .ok (.iconst 1, 1) := by decide +kernel
theorem dX5_append_36 : decode cX5_append 36 = .ok (.iadd, 1) := by decide +kernel
theorem dX5_append_37 : decode cX5_append 37 = .ok (.putfield 19, 3) := by decide +kernel
theorem dX5_append_40 : decode cX5_append 40 = .ok (.iinc 2 (-8), 3) := by decide +kernel
theorem dX5_append_43 : decode cX5_append 43 = .ok (.goto (-40), 3) := by decide +kernel
theorem dX5_append_46 : decode cX5_append 46 = .ok (.return_, 1) := by decide +kernel
theorem dX5_begin_0 : decode cX5_begin 0 = .ok (.aload_n 0, 1) := by decide +kernel
theorem dX5_begin_1 : decode cX5_begin 1 = .ok (.iload_n 1, 1) := by decide +kernel
theorem dX5_begin_2 : decode cX5_begin 2 = .ok (.putfield 23, 3) := by decide +kernel
theorem dX5_begin_5 : decode cX5_begin 5 = .ok (.aload_n 0, 1) := by decide +kernel
theorem dX5_begin_6 : decode cX5_begin 6 = .ok (.iconst 0, 1) := by decide +kernel
theorem dX5_begin_7 : decode cX5_begin 7 = .ok (.putfield 26, 3) := by decide +kernel
theorem dX5_begin_10 : decode cX5_begin 10 = .ok (.aload_n 0, 1) := by decide +kernel
theorem dX5_begin_11 : decode cX5_begin 11 = .ok (.iconst 0, 1) := by decide +kernel
theorem dX5_begin_12 : decode cX5_begin 12 = .ok (.putfield 45, 3) := by decide +kernel
theorem dX5_begin_15 : decode cX5_begin 15 = .ok (.aload_n 0, 1) := by decide +kernel
theorem dX5_begin_16 : decode cX5_begin 16 = .ok (.iconst (-1), 1) := by decide +kernel
theorem dX5_begin_17 : decode cX5_begin 17 = .ok (.putfield 48, 3) := by decide +kernel
theorem dX5_begin_20 : decode cX5_begin 20 = .ok (.aload_n 0, 1) := by decide +kernel
theorem dX5_begin_21 : decode cX5_begin 21 = .ok (.invokevirtual 64, 3) := by decide +kernel
theorem dX5_begin_24 : decode cX5_begin 24 = .ok (.return_, 1) := by decide +kernel
theorem dX5_advance_0 : decode cX5_advance 0 = .ok (.aload_n 0, 1) := by decide +kernel
theorem dX5_advance_1 : decode cX5_advance 1 = .ok (.getfield 26, 3) := by decide +kernel
theorem dX5_advance_4 : decode cX5_advance 4 = .ok (.aload_n 0, 1) := by decide +kernel
theorem dX5_advance_5 : decode cX5_advance 5 = .ok (.getfield 23, 3) := by decide +kernel
theorem dX5_advance_8 : decode cX5_advance 8 = .ok (.if_icmp .ge 44, 3) := by decide +kernel
theorem dX5_advance_11 : decode cX5_advance 11 = .ok (.aload_n 0, 1) := by decide +kernel
theorem dX5_advance_12 : decode cX5_advance 12 = .ok (.getfield 9, 3) := by decide +kernel
theorem dX5_advance_15 : decode cX5_advance 15 = .ok (.aload_n 0, 1) := by decide +kernel
theorem dX5_advance_16 : decode cX5_advance 16 = .ok (.getfield 26, 3) := by decide +kernel
theorem dX5_advance_19 : decode cX5_advance 19 = .ok (.baload, 1) := by decide +kernel
theorem dX5_advance_20 : decode cX5_advance 20 = .ok (.bipush 32, 2) := by decide +kernel
theorem dX5_advance_22 : decode cX5_advance 22 = .ok (.if_icmp .eq 17, 3) := by decide +kernel
theorem dX5_advance_25 : decode cX5_advance 25 = .ok (.aload_n 0, 1) := by decide +kernel
theorem dX5_advance_26 : decode cX5_advance 26 = .ok (.getfield 9, 3) := by decide +kernel
theorem dX5_advance_29 : decode cX5_advance 29 = .ok (.aload_n 0, 1) := by decide +kernel
theorem dX5_advance_30 : decode cX5_advance 30 = .ok (.getfield 26, 3) := by decide +kernel
theorem dX5_advance_33 : decode cX5_advance 33 = .ok (.baload, 1) := by decide +kernel
theorem dX5_advance_34 : decode cX5_advance 34 = .ok (.bipush 10, 2) := by decide +kernel
theorem dX5_advance_36 : decode cX5_advance 36 = .ok (.if_icmp .ne 16, 3) := by decide +kernel
theorem dX5_advance_39 : decode cX5_advance 39 = .ok (.aload_n 0, 1) := by decide +kernel
theorem dX5_advance_40 : decode cX5_advance 40 = .ok (.dup, 1) := by decide +kernel
theorem dX5_advance_41 : decode cX5_advance 41 = .ok (.getfield 26, 3) := by decide +kernel
theorem dX5_advance_44 : decode cX5_advance 44 = .ok (.iconst 1, 1) := by decide +kernel
theorem dX5_advance_45 : decode cX5_advance 45 = .ok (.iadd, 1) := by decide +kernel
theorem dX5_advance_46 : decode cX5_advance 46 = .ok (.putfield 26, 3) := by decide +kernel
theorem dX5_advance_49 : decode cX5_advance 49 = .ok (.goto (-49), 3) := by decide +kernel
theorem dX5_advance_52 : decode cX5_advance 52 = .ok (.aload_n 0, 1) := by decide +kernel
theorem dX5_advance_53 : decode cX5_advance 53 = .ok (.aload_n 0, 1) := by decide +kernel
theorem dX5_advance_54 : decode cX5_advance 54 = .ok (.getfield 26, 3) := by decide +kernel
theorem dX5_advance_57 : decode cX5_advance 57 = .ok (.putfield 29, 3) := by decide +kernel
theorem dX5_advance_60 : decode cX5_advance 60 = .ok (.aload_n 0, 1) := by decide +kernel
theorem dX5_advance_61 : decode cX5_advance 61 = .ok (.iconst (-1), 1) := by decide +kernel
theorem dX5_advance_62 : decode cX5_advance 62 = .ok (.putfield 35, 3) := by decide +kernel
theorem dX5_advance_65 : decode cX5_advance 65 = .ok (.aload_n 0, 1) := by decide +kernel
theorem dX5_advance_66 : decode cX5_advance 66 = .ok (.lconst 0, 1) := by decide +kernel
theorem dX5_advance_67 : decode cX5_advance 67 = .ok (.putfield 38, 3) := by decide +kernel
theorem dX5_advance_70 : decode cX5_advance 70 = .ok (.aload_n 0, 1) := by decide +kernel
theorem dX5_advance_71 : decode cX5_advance 71 = .ok (.getfield 29, 3) := by decide +kernel
theorem dX5_advance_74 : decode cX5_advance 74 = .ok (.aload_n 0, 1) := by decide +kernel
theorem dX5_advance_75 : decode cX5_advance 75 = .ok (.getfield 23, 3) := by decide +kernel
theorem dX5_advance_78 : decode cX5_advance 78 = .ok (.if_icmp .lt 11, 3) := by decide +kernel
theorem dX5_advance_81 : decode cX5_advance 81 = .ok (.aload_n 0, 1) := by decide +kernel
theorem dX5_advance_82 : decode cX5_advance 82 = .ok (.iconst 0, 1) := by decide +kernel
theorem dX5_advance_83 : decode cX5_advance 83 = .ok (.putfield 32, 3) := by decide +kernel
theorem dX5_advance_86 : decode cX5_advance 86 = .ok (.goto 77, 3) := by decide +kernel
theorem dX5_advance_89 : decode cX5_advance 89 = .ok (.aload_n 0, 1) := by decide +kernel
theorem dX5_advance_90 : decode cX5_advance 90 = .ok (.getfield 9, 3) := by decide +kernel
theorem dX5_advance_93 : decode cX5_advance 93 = .ok (.aload_n 0, 1) := by decide +kernel
theorem dX5_advance_94 : decode cX5_advance 94 = .ok (.getfield 29, 3) := by decide +kernel
theorem dX5_advance_97 : decode cX5_advance 97 = .ok (.baload, 1) := by decide +kernel
theorem dX5_advance_98 : decode cX5_advance 98 = .ok (.bipush 97, 2) := by decide +kernel
theorem dX5_advance_100 : decode cX5_advance 100 = .ok (.if_icmp .lt 24, 3) := by decide +kernel
theorem dX5_advance_103 : decode cX5_advance 103 = .ok (.aload_n 0, 1) := by decide +kernel
theorem dX5_advance_104 : decode cX5_advance 104 = .ok (.getfield 9, 3) := by decide +kernel
theorem dX5_advance_107 : decode cX5_advance 107 = .ok (.aload_n 0, 1) := by decide +kernel
theorem dX5_advance_108 : decode cX5_advance 108 = .ok (.getfield 29, 3) := by decide +kernel
theorem dX5_advance_111 : decode cX5_advance 111 = .ok (.baload, 1) := by decide +kernel
theorem dX5_advance_112 : decode cX5_advance 112 = .ok (.bipush 122, 2) := by decide +kernel
theorem dX5_advance_114 : decode cX5_advance 114 = .ok (.if_icmp .gt 10, 3) := by decide +kernel
theorem dX5_advance_117 : decode cX5_advance 117 = .ok (.aload_n 0, 1) := by decide +kernel
theorem dX5_advance_118 : decode cX5_advance 118 = .ok (.invokevirtual 67, 3) := by decide +kernel
theorem dX5_advance_121 : decode cX5_advance 121 = .ok (.goto 42, 3) := by decide +kernel
theorem dX5_advance_124 : decode cX5_advance 124 = .ok (.aload_n 0, 1) := by decide +kernel
theorem dX5_advance_125 : decode cX5_advance 125 = .ok (.getfield 9, 3) := by decide +kernel
theorem dX5_advance_128 : decode cX5_advance 128 = .ok (.aload_n 0, 1) := by decide +kernel
theorem dX5_advance_129 : decode cX5_advance 129 = .ok (.getfield 29, 3) := by decide +kernel
theorem dX5_advance_132 : decode cX5_advance 132 = .ok (.baload, 1) := by decide +kernel
theorem dX5_advance_133 : decode cX5_advance 133 = .ok (.bipush 48, 2) := by decide +kernel
theorem dX5_advance_135 : decode cX5_advance 135 = .ok (.if_icmp .lt 24, 3) := by decide +kernel
theorem dX5_advance_138 : decode cX5_advance 138 = .ok (.aload_n 0, 1) := by decide +kernel
theorem dX5_advance_139 : decode cX5_advance 139 = .ok (.getfield 9, 3) := by decide +kernel
theorem dX5_advance_142 : decode cX5_advance 142 = .ok (.aload_n 0, 1) := by decide +kernel
theorem dX5_advance_143 : decode cX5_advance 143 = .ok (.getfield 29, 3) := by decide +kernel
theorem dX5_advance_146 : decode cX5_advance 146 = .ok (.baload, 1) := by decide +kernel
theorem dX5_advance_147 : decode cX5_advance 147 = .ok (.bipush 57, 2) := by decide +kernel
theorem dX5_advance_149 : decode cX5_advance 149 = .ok (.if_icmp .gt 10, 3) := by decide +kernel
theorem dX5_advance_152 : decode cX5_advance 152 = .ok (.aload_n 0, 1) := by decide +kernel
theorem dX5_advance_153 : decode cX5_advance 153 = .ok (.invokevirtual 70, 3) := by decide +kernel
theorem dX5_advance_156 : decode cX5_advance 156 = .ok (.goto 7, 3) := by decide +kernel
theorem dX5_advance_159 : decode cX5_advance 159 = .ok (.aload_n 0, 1) := by decide +kernel
theorem dX5_advance_160 : decode cX5_advance 160 = .ok (.invokevirtual 73, 3) := by decide +kernel
theorem dX5_advance_163 : decode cX5_advance 163 = .ok (.return_, 1) := by decide +kernel
theorem dX5_lookAtWord_0 : decode cX5_lookAtWord 0 = .ok (.aload_n 0, 1) := by decide +kernel
theorem dX5_lookAtWord_1 : decode cX5_lookAtWord 1 = .ok (.iconst 1, 1) := by decide +kernel
theorem dX5_lookAtWord_2 : decode cX5_lookAtWord 2 = .ok (.putfield 32, 3) := by decide +kernel
theorem dX5_lookAtWord_5 : decode cX5_lookAtWord 5 = .ok (.aload_n 0, 1) := by decide +kernel
theorem dX5_lookAtWord_6 : decode cX5_lookAtWord 6 = .ok (.getfield 26, 3) := by decide +kernel
theorem dX5_lookAtWord_9 : decode cX5_lookAtWord 9 = .ok (.aload_n 0, 1) := by decide +kernel
theorem dX5_lookAtWord_10 : decode cX5_lookAtWord 10 = .ok (.getfield 23, 3) := by decide +kernel
theorem dX5_lookAtWord_13 : decode cX5_lookAtWord 13 = .ok (.if_icmp .ge 86, 3) := by decide +kernel
theorem dX5_lookAtWord_16 : decode cX5_lookAtWord 16 = .ok (.aload_n 0, 1) := by decide +kernel
theorem dX5_lookAtWord_17 : decode cX5_lookAtWord 17 = .ok (.getfield 9, 3) := by decide +kernel
theorem dX5_lookAtWord_20 : decode cX5_lookAtWord 20 = .ok (.aload_n 0, 1) := by decide +kernel
theorem dX5_lookAtWord_21 : decode cX5_lookAtWord 21 = .ok (.getfield 26, 3) := by decide +kernel
theorem dX5_lookAtWord_24 : decode cX5_lookAtWord 24 = .ok (.baload, 1) := by decide +kernel
theorem dX5_lookAtWord_25 : decode cX5_lookAtWord 25 = .ok (.bipush 97, 2) := by decide +kernel
theorem dX5_lookAtWord_27 : decode cX5_lookAtWord 27 = .ok (.if_icmp .lt 72, 3) := by decide +kernel
theorem dX5_lookAtWord_30 : decode cX5_lookAtWord 30 = .ok (.aload_n 0, 1) := by decide +kernel
theorem dX5_lookAtWord_31 : decode cX5_lookAtWord 31 = .ok (.getfield 9, 3) := by decide +kernel
theorem dX5_lookAtWord_34 : decode cX5_lookAtWord 34 = .ok (.aload_n 0, 1) := by decide +kernel
theorem dX5_lookAtWord_35 : decode cX5_lookAtWord 35 = .ok (.getfield 26, 3) := by decide +kernel
theorem dX5_lookAtWord_38 : decode cX5_lookAtWord 38 = .ok (.baload, 1) := by decide +kernel
theorem dX5_lookAtWord_39 : decode cX5_lookAtWord 39 = .ok (.bipush 122, 2) := by decide +kernel
theorem dX5_lookAtWord_41 : decode cX5_lookAtWord 41 = .ok (.if_icmp .gt 58, 3) := by decide +kernel
theorem dX5_lookAtWord_44 : decode cX5_lookAtWord 44 = .ok (.aload_n 0, 1) := by decide +kernel
theorem dX5_lookAtWord_45 : decode cX5_lookAtWord 45 = .ok (.getfield 26, 3) := by decide +kernel
theorem dX5_lookAtWord_48 : decode cX5_lookAtWord 48 = .ok (.aload_n 0, 1) := by decide +kernel
theorem dX5_lookAtWord_49 : decode cX5_lookAtWord 49 = .ok (.getfield 29, 3) := by decide +kernel
theorem dX5_lookAtWord_52 : decode cX5_lookAtWord 52 = .ok (.isub, 1) := by decide +kernel
theorem dX5_lookAtWord_53 : decode cX5_lookAtWord 53 = .ok (.bipush 8, 2) := by decide +kernel
theorem dX5_lookAtWord_55 : decode cX5_lookAtWord 55 = .ok (.if_icmp .ge 31, 3) := by decide +kernel
theorem dX5_lookAtWord_58 : decode cX5_lookAtWord 58 = .ok (.aload_n 0, 1) := by decide +kernel
theorem dX5_lookAtWord_59 : decode cX5_lookAtWord 59 = .ok (.aload_n 0, 1) := by decide +kernel
theorem dX5_lookAtWord_60 : decode cX5_lookAtWord 60 = .ok (.getfield 38, 3) := by decide +kernel
theorem dX5_lookAtWord_63 : decode cX5_lookAtWord 63 = .ok (.ldc2_w 62, 3) := by decide +kernel
theorem dX5_lookAtWord_66 : decode cX5_lookAtWord 66 = .ok (.lmul, 1) := by decide +kernel
theorem dX5_lookAtWord_67 : decode cX5_lookAtWord 67 = .ok (.aload_n 0, 1) := by decide +kernel
theorem dX5_lookAtWord_68 : decode cX5_lookAtWord 68 = .ok (.getfield 9, 3) := by decide +kernel
theorem dX5_lookAtWord_71 : decode cX5_lookAtWord 71 = .ok (.aload_n 0, 1) := by decide +kernel
theorem dX5_lookAtWord_72 : decode cX5_lookAtWord 72 = .ok (.getfield 26, 3) := by decide +kernel
theorem dX5_lookAtWord_75 : decode cX5_lookAtWord 75 = .ok (.baload, 1) := by decide +kernel
theorem dX5_lookAtWord_76 : decode cX5_lookAtWord 76 = .ok (.bipush 97, 2) := by decide +kernel
theorem dX5_lookAtWord_78 : decode cX5_lookAtWord 78 = .ok (.isub, 1) := by decide +kernel
theorem dX5_lookAtWord_79 : decode cX5_lookAtWord 79 = .ok (.iconst 1, 1) := by decide +kernel
theorem dX5_lookAtWord_80 : decode cX5_lookAtWord 80 = .ok (.iadd, 1) := by decide +kernel
theorem dX5_lookAtWord_81 : decode cX5_lookAtWord 81 = .ok (.i2l, 1) := by decide +kernel
theorem dX5_lookAtWord_82 : decode cX5_lookAtWord 82 = .ok (.ladd, 1) := by decide +kernel
theorem dX5_lookAtWord_83 : decode cX5_lookAtWord 83 = .ok (.putfield 38, 3) := by decide +kernel
theorem dX5_lookAtWord_86 : decode cX5_lookAtWord 86 = .ok (.aload_n 0, 1) := by decide +kernel
theorem dX5_lookAtWord_87 : decode cX5_lookAtWord 87 = .ok (.dup, 1) := by decide +kernel
theorem dX5_lookAtWord_88 : decode cX5_lookAtWord 88 = .ok (.getfield 26, 3) := by decide +kernel
theorem dX5_lookAtWord_91 : decode cX5_lookAtWord 91 = .ok (.iconst 1, 1) := by decide +kernel
theorem dX5_lookAtWord_92 : decode cX5_lookAtWord 92 = .ok (.iadd, 1) := by decide +kernel
theorem dX5_lookAtWord_93 : decode cX5_lookAtWord 93 = .ok (.putfield 26, 3) := by decide +kernel
theorem dX5_lookAtWord_96 : decode cX5_lookAtWord 96 = .ok (.goto (-91), 3) := by decide +kernel
theorem dX5_lookAtWord_99 : decode cX5_lookAtWord 99 = .ok (.aload_n 0, 1) := by decide +kernel
theorem dX5_lookAtWord_100 : decode cX5_lookAtWord 100 = .ok (.getfield 26, 3) := by decide +kernel
theorem dX5_lookAtWord_103 : decode cX5_lookAtWord 103 = .ok (.aload_n 0, 1) := by decide +kernel
theorem dX5_lookAtWord_104 : decode cX5_lookAtWord 104 = .ok (.getfield 29, 3) := by decide +kernel
theorem dX5_lookAtWord_107 : decode cX5_lookAtWord 107 = .ok (.isub, 1) := by decide +kernel
theorem dX5_lookAtWord_108 : decode cX5_lookAtWord 108 = .ok (.bipush 8, 2) := by decide +kernel
theorem dX5_lookAtWord_110 : decode cX5_lookAtWord 110 = .ok (.if_icmp .le 8, 3) := by decide +kernel
theorem dX5_lookAtWord_113 : decode cX5_lookAtWord 113 = .ok (.aload_n 0, 1) := by decide +kernel
theorem dX5_lookAtWord_114 : decode cX5_lookAtWord 114 = .ok (.lconst 0, 1) := by decide +kernel
theorem dX5_lookAtWord_115 : decode cX5_lookAtWord 115 = .ok (.putfield 38, 3) := by decide +kernel
theorem dX5_lookAtWord_118 : decode cX5_lookAtWord 118 = .ok (.iconst 0, 1) := by decide +kernel
theorem dX5_lookAtWord_119 : decode cX5_lookAtWord 119 = .ok (.istore_n 1, 1) := by decide +kernel
theorem dX5_lookAtWord_120 : decode cX5_lookAtWord 120 = .ok (.iload_n 1, 1) := by decide +kernel
theorem dX5_lookAtWord_121 : decode cX5_lookAtWord 121 = .ok (.bipush 30, 2) := by decide +kernel
theorem dX5_lookAtWord_123 : decode cX5_lookAtWord 123 = .ok (.if_icmp .ge 36, 3) := by decide +kernel
theorem dX5_lookAtWord_126 : decode cX5_lookAtWord 126 = .ok (.aload_n 0, 1) := by decide +kernel
theorem dX5_lookAtWord_127 : decode cX5_lookAtWord 127 = .ok (.getfield 35, 3) := by decide +kernel
theorem dX5_lookAtWord_130 : decode cX5_lookAtWord 130 = .ok (.iconst (-1), 1) := by decide +kernel
theorem dX5_lookAtWord_131 : decode cX5_lookAtWord 131 = .ok (.if_icmp .ne 28, 3) := by decide +kernel
theorem dX5_lookAtWord_134 : decode cX5_lookAtWord 134 = .ok (.aload_n 0, 1) := by decide +kernel
theorem dX5_lookAtWord_135 : decode cX5_lookAtWord 135 = .ok (.getfield 15, 3) := by decide +kernel
theorem dX5_lookAtWord_138 : decode cX5_lookAtWord 138 = .ok (.iload_n 1, 1) := by decide +kernel
theorem dX5_lookAtWord_139 : decode cX5_lookAtWord 139 = .ok (.laload, 1) := by decide +kernel
theorem dX5_lookAtWord_140 : decode cX5_lookAtWord 140 = .ok (.aload_n 0, 1) := by decide +kernel
theorem dX5_lookAtWord_141 : decode cX5_lookAtWord 141 = .ok (.getfield 38, 3) := by decide +kernel
theorem dX5_lookAtWord_144 : decode cX5_lookAtWord 144 = .ok (.lcmp, 1) := by decide +kernel
theorem dX5_lookAtWord_145 : decode cX5_lookAtWord 145 = .ok (.ifCond .ne 8, 3) := by decide +kernel
theorem dX5_lookAtWord_148 : decode cX5_lookAtWord 148 = .ok (.aload_n 0, 1) := by decide +kernel
theorem dX5_lookAtWord_149 : decode cX5_lookAtWord 149 = .ok (.iload_n 1, 1) := by decide +kernel
theorem dX5_lookAtWord_150 : decode cX5_lookAtWord 150 = .ok (.putfield 35, 3) := by decide +kernel
theorem dX5_lookAtWord_153 : decode cX5_lookAtWord 153 = .ok (.iinc 1 1, 3) := by decide +kernel
theorem dX5_lookAtWord_156 : decode cX5_lookAtWord 156 = .ok (.goto (-36), 3) := by decide +kernel
theorem dX5_lookAtWord_159 : decode cX5_lookAtWord 159 = .ok (.return_, 1) := by decide +kernel
theorem dX5_lookAtNumber_0 : decode cX5_lookAtNumber 0 = .ok (.aload_n 0, 1) := by decide +kernel
theorem dX5_lookAtNumber_1 : decode cX5_lookAtNumber 1 = .ok (.iconst 2, 1) := by decide +kernel
theorem dX5_lookAtNumber_2 : decode cX5_lookAtNumber 2 = .ok (.putfield 32, 3) := by decide +kernel
theorem dX5_lookAtNumber_5 : decode cX5_lookAtNumber 5 = .ok (.aload_n 0, 1) := by decide +kernel
theorem dX5_lookAtNumber_6 : decode cX5_lookAtNumber 6 = .ok (.iconst 0, 1) := by decide +kernel
theorem dX5_lookAtNumber_7 : decode cX5_lookAtNumber 7 = .ok (.putfield 35, 3) := by decide +kernel
theorem dX5_lookAtNumber_10 : decode cX5_lookAtNumber 10 = .ok (.aload_n 0, 1) := by decide +kernel
theorem dX5_lookAtNumber_11 : decode cX5_lookAtNumber 11 = .ok (.getfield 26, 3) := by decide +kernel
theorem dX5_lookAtNumber_14 : decode cX5_lookAtNumber 14 = .ok (.aload_n 0, 1) := by decide +kernel
theorem dX5_lookAtNumber_15 : decode cX5_lookAtNumber 15 = .ok (.getfield 23, 3) := by decide +kernel
theorem dX5_lookAtNumber_18 : decode cX5_lookAtNumber 18 = .ok (.if_icmp .ge 81, 3) := by decide +kernel
theorem dX5_lookAtNumber_21 : decode cX5_lookAtNumber 21 = .ok (.aload_n 0, 1) := by decide +kernel
theorem dX5_lookAtNumber_22 : decode cX5_lookAtNumber 22 = .ok (.getfield 9, 3) := by decide +kernel
theorem dX5_lookAtNumber_25 : decode cX5_lookAtNumber 25 = .ok (.aload_n 0, 1) := by decide +kernel
theorem dX5_lookAtNumber_26 : decode cX5_lookAtNumber 26 = .ok (.getfield 26, 3) := by decide +kernel
theorem dX5_lookAtNumber_29 : decode cX5_lookAtNumber 29 = .ok (.baload, 1) := by decide +kernel
theorem dX5_lookAtNumber_30 : decode cX5_lookAtNumber 30 = .ok (.bipush 48, 2) := by decide +kernel
theorem dX5_lookAtNumber_32 : decode cX5_lookAtNumber 32 = .ok (.if_icmp .lt 67, 3) := by decide +kernel
theorem dX5_lookAtNumber_35 : decode cX5_lookAtNumber 35 = .ok (.aload_n 0, 1) := by decide +kernel
theorem dX5_lookAtNumber_36 : decode cX5_lookAtNumber 36 = .ok (.getfield 9, 3) := by decide +kernel
theorem dX5_lookAtNumber_39 : decode cX5_lookAtNumber 39 = .ok (.aload_n 0, 1) := by decide +kernel
theorem dX5_lookAtNumber_40 : decode cX5_lookAtNumber 40 = .ok (.getfield 26, 3) := by decide +kernel
theorem dX5_lookAtNumber_43 : decode cX5_lookAtNumber 43 = .ok (.baload, 1) := by decide +kernel
theorem dX5_lookAtNumber_44 : decode cX5_lookAtNumber 44 = .ok (.bipush 57, 2) := by decide +kernel
theorem dX5_lookAtNumber_46 : decode cX5_lookAtNumber 46 = .ok (.if_icmp .gt 53, 3) := by decide +kernel
theorem dX5_lookAtNumber_49 : decode cX5_lookAtNumber 49 = .ok (.aload_n 0, 1) := by decide +kernel
theorem dX5_lookAtNumber_50 : decode cX5_lookAtNumber 50 = .ok (.getfield 26, 3) := by decide +kernel
theorem dX5_lookAtNumber_53 : decode cX5_lookAtNumber 53 = .ok (.aload_n 0, 1) := by decide +kernel
theorem dX5_lookAtNumber_54 : decode cX5_lookAtNumber 54 = .ok (.getfield 29, 3) := by decide +kernel
theorem dX5_lookAtNumber_57 : decode cX5_lookAtNumber 57 = .ok (.isub, 1) := by decide +kernel
theorem dX5_lookAtNumber_58 : decode cX5_lookAtNumber 58 = .ok (.iconst 4, 1) := by decide +kernel
theorem dX5_lookAtNumber_59 : decode cX5_lookAtNumber 59 = .ok (.if_icmp .ge 27, 3) := by decide +kernel
theorem dX5_lookAtNumber_62 : decode cX5_lookAtNumber 62 = .ok (.aload_n 0, 1) := by decide +kernel
theorem dX5_lookAtNumber_63 : decode cX5_lookAtNumber 63 = .ok (.aload_n 0, 1) := by decide +kernel
theorem dX5_lookAtNumber_64 : decode cX5_lookAtNumber 64 = .ok (.getfield 35, 3) := by decide +kernel
theorem dX5_lookAtNumber_67 : decode cX5_lookAtNumber 67 = .ok (.bipush 10, 2) := by decide +kernel
theorem dX5_lookAtNumber_69 : decode cX5_lookAtNumber 69 = .ok (.imul, 1) := by decide +kernel
theorem dX5_lookAtNumber_70 : decode cX5_lookAtNumber 70 = .ok (.aload_n 0, 1) := by decide +kernel
theorem dX5_lookAtNumber_71 : decode cX5_lookAtNumber 71 = .ok (.getfield 9, 3) := by decide +kernel
theorem dX5_lookAtNumber_74 : decode cX5_lookAtNumber 74 = .ok (.aload_n 0, 1) := by decide +kernel
theorem dX5_lookAtNumber_75 : decode cX5_lookAtNumber 75 = .ok (.getfield 26, 3) := by decide +kernel
theorem dX5_lookAtNumber_78 : decode cX5_lookAtNumber 78 = .ok (.baload, 1) := by decide +kernel
theorem dX5_lookAtNumber_79 : decode cX5_lookAtNumber 79 = .ok (.bipush 48, 2) := by decide +kernel
theorem dX5_lookAtNumber_81 : decode cX5_lookAtNumber 81 = .ok (.isub, 1) := by decide +kernel
theorem dX5_lookAtNumber_82 : decode cX5_lookAtNumber 82 = .ok (.iadd, 1) := by decide +kernel
theorem dX5_lookAtNumber_83 : decode cX5_lookAtNumber 83 = .ok (.putfield 35, 3) := by decide +kernel
theorem dX5_lookAtNumber_86 : decode cX5_lookAtNumber 86 = .ok (.aload_n 0, 1) := by decide +kernel
theorem dX5_lookAtNumber_87 : decode cX5_lookAtNumber 87 = .ok (.dup, 1) := by decide +kernel
theorem dX5_lookAtNumber_88 : decode cX5_lookAtNumber 88 = .ok (.getfield 26, 3) := by decide +kernel
theorem dX5_lookAtNumber_91 : decode cX5_lookAtNumber 91 = .ok (.iconst 1, 1) := by decide +kernel
theorem dX5_lookAtNumber_92 : decode cX5_lookAtNumber 92 = .ok (.iadd, 1) := by decide +kernel
theorem dX5_lookAtNumber_93 : decode cX5_lookAtNumber 93 = .ok (.putfield 26, 3) := by decide +kernel
theorem dX5_lookAtNumber_96 : decode cX5_lookAtNumber 96 = .ok (.goto (-86), 3) := by decide +kernel
theorem dX5_lookAtNumber_99 : decode cX5_lookAtNumber 99 = .ok (.aload_n 0, 1) := by decide +kernel
theorem dX5_lookAtNumber_100 : decode cX5_lookAtNumber 100 = .ok (.getfield 26, 3) := by decide +kernel
theorem dX5_lookAtNumber_103 : decode cX5_lookAtNumber 103 = .ok (.aload_n 0, 1) := by decide +kernel
theorem dX5_lookAtNumber_104 : decode cX5_lookAtNumber 104 = .ok (.getfield 29, 3) := by decide +kernel
theorem dX5_lookAtNumber_107 : decode cX5_lookAtNumber 107 = .ok (.isub, 1) := by decide +kernel
theorem dX5_lookAtNumber_108 : decode cX5_lookAtNumber 108 = .ok (.iconst 4, 1) := by decide +kernel
theorem dX5_lookAtNumber_109 : decode cX5_lookAtNumber 109 = .ok (.if_icmp .le 8, 3) := by decide +kernel
theorem dX5_lookAtNumber_112 : decode cX5_lookAtNumber 112 = .ok (.aload_n 0, 1) := by decide +kernel
theorem dX5_lookAtNumber_113 : decode cX5_lookAtNumber 113 = .ok (.iconst 4, 1) := by decide +kernel
theorem dX5_lookAtNumber_114 : decode cX5_lookAtNumber 114 = .ok (.putfield 32, 3) := by decide +kernel
theorem dX5_lookAtNumber_117 : decode cX5_lookAtNumber 117 = .ok (.return_, 1) := by decide +kernel
theorem dX5_lookAtSign_0 : decode cX5_lookAtSign 0 = .ok (.aload_n 0, 1) := by decide +kernel
theorem dX5_lookAtSign_1 : decode cX5_lookAtSign 1 = .ok (.getfield 9, 3) := by decide +kernel
theorem dX5_lookAtSign_4 : decode cX5_lookAtSign 4 = .ok (.aload_n 0, 1) := by decide +kernel
theorem dX5_lookAtSign_5 : decode cX5_lookAtSign 5 = .ok (.getfield 29, 3) := by decide +kernel
theorem dX5_lookAtSign_8 : decode cX5_lookAtSign 8 = .ok (.baload, 1) := by decide +kernel
theorem dX5_lookAtSign_9 : decode cX5_lookAtSign 9 = .ok (.istore_n 1, 1) := by decide +kernel
theorem dX5_lookAtSign_10 : decode cX5_lookAtSign 10 = .ok (.aload_n 0, 1) := by decide +kernel
theorem dX5_lookAtSign_11 : decode cX5_lookAtSign 11 = .ok (.iload_n 1, 1) := by decide +kernel
theorem dX5_lookAtSign_12 : decode cX5_lookAtSign 12 = .ok (.bipush 59, 2) := by decide +kernel
theorem dX5_lookAtSign_14 : decode cX5_lookAtSign 14 = .ok (.if_icmp .eq 21, 3) := by decide +kernel
theorem dX5_lookAtSign_17 : decode cX5_lookAtSign 17 = .ok (.iload_n 1, 1) := by decide +kernel
theorem dX5_lookAtSign_18 : decode cX5_lookAtSign 18 = .ok (.bipush 60, 2) := by decide +kernel
theorem dX5_lookAtSign_20 : decode cX5_lookAtSign 20 = .ok (.if_icmp .eq 15, 3) := by decide +kernel
theorem dX5_lookAtSign_23 : decode cX5_lookAtSign 23 = .ok (.iload_n 1, 1) := by decide +kernel
theorem dX5_lookAtSign_24 : decode cX5_lookAtSign 24 = .ok (.bipush 62, 2) := by decide +kernel
theorem dX5_lookAtSign_26 : decode cX5_lookAtSign 26 = .ok (.if_icmp .eq 9, 3) := by decide +kernel
theorem dX5_lookAtSign_29 : decode cX5_lookAtSign 29 = .ok (.iload_n 1, 1) := by decide +kernel
theorem dX5_lookAtSign_30 : decode cX5_lookAtSign 30 = .ok (.bipush 61, 2) := by decide +kernel
theorem dX5_lookAtSign_32 : decode cX5_lookAtSign 32 = .ok (.if_icmp .ne 7, 3) := by decide +kernel
theorem dX5_lookAtSign_35 : decode cX5_lookAtSign 35 = .ok (.iconst 3, 1) := by decide +kernel
theorem dX5_lookAtSign_36 : decode cX5_lookAtSign 36 = .ok (.goto 4, 3) := by decide +kernel
theorem dX5_lookAtSign_39 : decode cX5_lookAtSign 39 = .ok (.iconst 4, 1) := by decide +kernel
theorem dX5_lookAtSign_40 : decode cX5_lookAtSign 40 = .ok (.putfield 32, 3) := by decide +kernel
theorem dX5_lookAtSign_43 : decode cX5_lookAtSign 43 = .ok (.aload_n 0, 1) := by decide +kernel
theorem dX5_lookAtSign_44 : decode cX5_lookAtSign 44 = .ok (.iload_n 1, 1) := by decide +kernel
theorem dX5_lookAtSign_45 : decode cX5_lookAtSign 45 = .ok (.putfield 35, 3) := by decide +kernel
theorem dX5_lookAtSign_48 : decode cX5_lookAtSign 48 = .ok (.aload_n 0, 1) := by decide +kernel
theorem dX5_lookAtSign_49 : decode cX5_lookAtSign 49 = .ok (.dup, 1) := by decide +kernel
theorem dX5_lookAtSign_50 : decode cX5_lookAtSign 50 = .ok (.getfield 26, 3) := by decide +kernel
theorem dX5_lookAtSign_53 : decode cX5_lookAtSign 53 = .ok (.iconst 1, 1) := by decide +kernel
theorem dX5_lookAtSign_54 : decode cX5_lookAtSign 54 = .ok (.iadd, 1) := by decide +kernel
theorem dX5_lookAtSign_55 : decode cX5_lookAtSign 55 = .ok (.putfield 26, 3) := by decide +kernel
theorem dX5_lookAtSign_58 : decode cX5_lookAtSign 58 = .ok (.return_, 1) := by decide +kernel
theorem dX5_fail_0 : decode cX5_fail 0 = .ok (.aload_n 0, 1) := by decide +kernel
theorem dX5_fail_1 : decode cX5_fail 1 = .ok (.getfield 45, 3) := by decide +kernel
theorem dX5_fail_4 : decode cX5_fail 4 = .ok (.ifCond .ne 28, 3) := by decide +kernel
theorem dX5_fail_7 : decode cX5_fail 7 = .ok (.aload_n 0, 1) := by decide +kernel
theorem dX5_fail_8 : decode cX5_fail 8 = .ok (.aload_n 0, 1) := by decide +kernel
theorem dX5_fail_9 : decode cX5_fail 9 = .ok (.getfield 32, 3) := by decide +kernel
theorem dX5_fail_12 : decode cX5_fail 12 = .ok (.iconst 4, 1) := by decide +kernel
theorem dX5_fail_13 : decode cX5_fail 13 = .ok (.if_icmp .ne 7, 3) := by decide +kernel
theorem dX5_fail_16 : decode cX5_fail 16 = .ok (.iconst 1, 1) := by decide +kernel
theorem dX5_fail_17 : decode cX5_fail 17 = .ok (.goto 4, 3) := by decide +kernel
theorem dX5_fail_20 : decode cX5_fail 20 = .ok (.iload_n 1, 1) := by decide +kernel
theorem dX5_fail_21 : decode cX5_fail 21 = .ok (.putfield 45, 3) := by decide +kernel
theorem dX5_fail_24 : decode cX5_fail 24 = .ok (.aload_n 0, 1) := by decide +kernel
theorem dX5_fail_25 : decode cX5_fail 25 = .ok (.aload_n 0, 1) := by decide +kernel
theorem dX5_fail_26 : decode cX5_fail 26 = .ok (.getfield 29, 3) := by decide +kernel
theorem dX5_fail_29 : decode cX5_fail 29 = .ok (.putfield 48, 3) := by decide +kernel
theorem dX5_fail_32 : decode cX5_fail 32 = .ok (.iconst 0, 1) := by decide +kernel
theorem dX5_fail_33 : decode cX5_fail 33 = .ok (.ireturn, 1) := by decide +kernel
theorem dX5_word_0 : decode cX5_word 0 = .ok (.aload_n 0, 1) := by decide +kernel
theorem dX5_word_1 : decode cX5_word 1 = .ok (.getfield 32, 3) := by decide +kernel
theorem dX5_word_4 : decode cX5_word 4 = .ok (.iconst 1, 1) := by decide +kernel
theorem dX5_word_5 : decode cX5_word 5 = .ok (.if_icmp .ne 10, 3) := by decide +kernel
theorem dX5_word_8 : decode cX5_word 8 = .ok (.aload_n 0, 1) := by decide +kernel
theorem dX5_word_9 : decode cX5_word 9 = .ok (.getfield 35, 3) := by decide +kernel
theorem dX5_word_12 : decode cX5_word 12 = .ok (.goto 4, 3) := by decide +kernel
theorem dX5_word_15 : decode cX5_word 15 = .ok (.iconst (-1), 1) := by decide +kernel
theorem dX5_word_16 : decode cX5_word 16 = .ok (.ireturn, 1) := by decide +kernel
theorem dX5_isName_0 : decode cX5_isName 0 = .ok (.aload_n 0, 1) := by decide +kernel
theorem dX5_isName_1 : decode cX5_isName 1 = .ok (.getfield 32, 3) := by decide +kernel
theorem dX5_isName_4 : decode cX5_isName 4 = .ok (.iconst 1, 1) := by decide +kernel
theorem dX5_isName_5 : decode cX5_isName 5 = .ok (.if_icmp .ne 24, 3) := by decide +kernel
theorem dX5_isName_8 : decode cX5_isName 8 = .ok (.aload_n 0, 1) := by decide +kernel
theorem dX5_isName_9 : decode cX5_isName 9 = .ok (.getfield 35, 3) := by decide +kernel
theorem dX5_isName_12 : decode cX5_isName 12 = .ok (.iconst (-1), 1) := by decide +kernel
theorem dX5_isName_13 : decode cX5_isName 13 = .ok (.if_icmp .ne 16, 3) := by decide +kernel
theorem dX5_isName_16 : decode cX5_isName 16 = .ok (.aload_n 0, 1) := by decide +kernel
theorem dX5_isName_17 : decode cX5_isName 17 = .ok (.getfield 38, 3) := by decide +kernel
theorem dX5_isName_20 : decode cX5_isName 20 = .ok (.lconst 0, 1) := by decide +kernel
theorem dX5_isName_21 : decode cX5_isName 21 = .ok (.lcmp, 1) := by decide +kernel
theorem dX5_isName_22 : decode cX5_isName 22 = .ok (.ifCond .eq 7, 3) := by decide +kernel
theorem dX5_isName_25 : decode cX5_isName 25 = .ok (.iconst 1, 1) := by decide +kernel
theorem dX5_isName_26 : decode cX5_isName 26 = .ok (.goto 4, 3) := by decide +kernel
theorem dX5_isName_29 : decode cX5_isName 29 = .ok (.iconst 0, 1) := by decide +kernel
theorem dX5_isName_30 : decode cX5_isName 30 = .ok (.ireturn, 1) := by decide +kernel
theorem dX5_takeWord_0 : decode cX5_takeWord 0 = .ok (.aload_n 0, 1) := by decide +kernel
theorem dX5_takeWord_1 : decode cX5_takeWord 1 = .ok (.invokevirtual 76, 3) := by decide +kernel
theorem dX5_takeWord_4 : decode cX5_takeWord 4 = .ok (.iload_n 1, 1) := by decide +kernel
theorem dX5_takeWord_5 : decode cX5_takeWord 5 = .ok (.if_icmp .eq 5, 3) := by decide +kernel
theorem dX5_takeWord_8 : decode cX5_takeWord 8 = .ok (.iconst 0, 1) := by decide +kernel
theorem dX5_takeWord_9 : decode cX5_takeWord 9 = .ok (.ireturn, 1) := by decide +kernel
theorem dX5_takeWord_10 : decode cX5_takeWord 10 = .ok (.aload_n 0, 1) := by decide +kernel
theorem dX5_takeWord_11 : decode cX5_takeWord 11 = .ok (.invokevirtual 64, 3) := by decide +kernel
theorem dX5_takeWord_14 : decode cX5_takeWord 14 = .ok (.iconst 1, 1) := by decide +kernel
theorem dX5_takeWord_15 : decode cX5_takeWord 15 = .ok (.ireturn, 1) := by decide +kernel
theorem dX5_needWord_0 : decode cX5_needWord 0 = .ok (.aload_n 0, 1) := by decide +kernel
theorem dX5_needWord_1 : decode cX5_needWord 1 = .ok (.iload_n 1, 1) := by decide +kernel
theorem dX5_needWord_2 : decode cX5_needWord 2 = .ok (.invokevirtual 79, 3) := by decide +kernel
theorem dX5_needWord_5 : decode cX5_needWord 5 = .ok (.ifCond .ne 11, 3) := by decide +kernel
theorem dX5_needWord_8 : decode cX5_needWord 8 = .ok (.aload_n 0, 1) := by decide +kernel
theorem dX5_needWord_9 : decode cX5_needWord 9 = .ok (.iconst 2, 1) := by decide +kernel
theorem dX5_needWord_10 : decode cX5_needWord 10 = .ok (.invokevirtual 83, 3) := by decide +kernel
theorem dX5_needWord_13 : decode cX5_needWord 13 = .ok (.ifCond .eq 7, 3) := by decide +kernel
theorem dX5_needWord_16 : decode cX5_needWord 16 = .ok (.iconst 1, 1) := by decide +kernel
theorem dX5_needWord_17 : decode cX5_needWord 17 = .ok (.goto 4, 3) := by decide +kernel
theorem dX5_needWord_20 : decode cX5_needWord 20 = .ok (.iconst 0, 1) := by decide +kernel
theorem dX5_needWord_21 : decode cX5_needWord 21 = .ok (.ireturn, 1) := by decide +kernel
theorem dX5_needStop_0 : decode cX5_needStop 0 = .ok (.aload_n 0, 1) := by decide +kernel
theorem dX5_needStop_1 : decode cX5_needStop 1 = .ok (.getfield 32, 3) := by decide +kernel
theorem dX5_needStop_4 : decode cX5_needStop 4 = .ok (.iconst 3, 1) := by decide +kernel
theorem dX5_needStop_5 : decode cX5_needStop 5 = .ok (.if_icmp .ne 12, 3) := by decide +kernel
theorem dX5_needStop_8 : decode cX5_needStop 8 = .ok (.aload_n 0, 1) := by decide +kernel
theorem dX5_needStop_9 : decode cX5_needStop 9 = .ok (.getfield 35, 3) := by decide +kernel
theorem dX5_needStop_12 : decode cX5_needStop 12 = .ok (.bipush 59, 2) := by decide +kernel
theorem dX5_needStop_14 : decode cX5_needStop 14 = .ok (.if_icmp .eq 9, 3) := by decide +kernel
theorem dX5_needStop_17 : decode cX5_needStop 17 = .ok (.aload_n 0, 1) := by decide +kernel
theorem dX5_needStop_18 : decode cX5_needStop 18 = .ok (.iconst 2, 1) := by decide +kernel
theorem dX5_needStop_19 : decode cX5_needStop 19 = .ok (.invokevirtual 83, 3) := by decide +kernel
theorem dX5_needStop_22 : decode cX5_needStop 22 = .ok (.ireturn, 1) := by decide +kernel
theorem dX5_needStop_23 : decode cX5_needStop 23 = .ok (.aload_n 0, 1) := by decide +kernel
theorem dX5_needStop_24 : decode cX5_needStop 24 = .ok (.invokevirtual 64, 3) := by decide +kernel
theorem dX5_needStop_27 : decode cX5_needStop 27 = .ok (.iconst 1, 1) := by decide +kernel
theorem dX5_needStop_28 : decode cX5_needStop 28 = .ok (.ireturn, 1) := by decide +kernel
theorem dX5_needCompares_0 : decode cX5_needCompares 0 = .ok (.aload_n 0, 1) := by decide +kernel
theorem dX5_needCompares_1 : decode cX5_needCompares 1 = .ok (.getfield 32, 3) := by decide +kernel
theorem dX5_needCompares_4 : decode cX5_needCompares 4 = .ok (.iconst 3, 1) := by decide +kernel
theorem dX5_needCompares_5 : decode cX5_needCompares 5 = .ok (.if_icmp .ne 12, 3) := by decide +kernel
theorem dX5_needCompares_8 : decode cX5_needCompares 8 = .ok (.aload_n 0, 1) := by decide +kernel
theorem dX5_needCompares_9 : decode cX5_needCompares 9 = .ok (.getfield 35, 3) := by decide +kernel
theorem dX5_needCompares_12 : decode cX5_needCompares 12 = .ok (.bipush 59, 2) := by decide +kernel
theorem dX5_needCompares_14 : decode cX5_needCompares 14 = .ok (.if_icmp .ne 9, 3) := by decide +kernel
theorem dX5_needCompares_17 : decode cX5_needCompares 17 = .ok (.aload_n 0, 1) := by decide +kernel
theorem dX5_needCompares_18 : decode cX5_needCompares 18 = .ok (.iconst 2, 1) := by decide +kernel
theorem dX5_needCompares_19 : decode cX5_needCompares 19 = .ok (.invokevirtual 83, 3) := by decide +kernel
theorem dX5_needCompares_22 : decode cX5_needCompares 22 = .ok (.ireturn, 1) := by decide +kernel
theorem dX5_needCompares_23 : decode cX5_needCompares 23 = .ok (.aload_n 0, 1) := by decide +kernel
theorem dX5_needCompares_24 : decode cX5_needCompares 24 = .ok (.aload_n 0, 1) := by decide +kernel
theorem dX5_needCompares_25 : decode cX5_needCompares 25 = .ok (.getfield 35, 3) := by decide +kernel
theorem dX5_needCompares_28 : decode cX5_needCompares 28 = .ok (.putfield 42, 3) := by decide +kernel
theorem dX5_needCompares_31 : decode cX5_needCompares 31 = .ok (.aload_n 0, 1) := by decide +kernel
theorem dX5_needCompares_32 : decode cX5_needCompares 32 = .ok (.invokevirtual 64, 3) := by decide +kernel
theorem dX5_needCompares_35 : decode cX5_needCompares 35 = .ok (.iconst 1, 1) := by decide +kernel
theorem dX5_needCompares_36 : decode cX5_needCompares 36 = .ok (.ireturn, 1) := by decide +kernel
theorem dX5_needNumber_0 : decode cX5_needNumber 0 = .ok (.aload_n 0, 1) := by decide +kernel
theorem dX5_needNumber_1 : decode cX5_needNumber 1 = .ok (.getfield 32, 3) := by decide +kernel
theorem dX5_needNumber_4 : decode cX5_needNumber 4 = .ok (.iconst 2, 1) := by decide +kernel
theorem dX5_needNumber_5 : decode cX5_needNumber 5 = .ok (.if_icmp .eq 9, 3) := by decide +kernel
theorem dX5_needNumber_8 : decode cX5_needNumber 8 = .ok (.aload_n 0, 1) := by decide +kernel
theorem dX5_needNumber_9 : decode cX5_needNumber 9 = .ok (.iconst 2, 1) := by decide +kernel
theorem dX5_needNumber_10 : decode cX5_needNumber 10 = .ok (.invokevirtual 83, 3) := by decide +kernel
theorem dX5_needNumber_13 : decode cX5_needNumber 13 = .ok (.ireturn, 1) := by decide +kernel
theorem dX5_needNumber_14 : decode cX5_needNumber 14 = .ok (.aload_n 0, 1) := by decide +kernel
theorem dX5_needNumber_15 : decode cX5_needNumber 15 = .ok (.getfield 35, 3) := by decide +kernel
theorem dX5_needNumber_18 : decode cX5_needNumber 18 = .ok (.iload_n 1, 1) := by decide +kernel
theorem dX5_needNumber_19 : decode cX5_needNumber 19 = .ok (.if_icmp .lt 11, 3) := by decide +kernel
theorem dX5_needNumber_22 : decode cX5_needNumber 22 = .ok (.aload_n 0, 1) := by decide +kernel
theorem dX5_needNumber_23 : decode cX5_needNumber 23 = .ok (.getfield 35, 3) := by decide +kernel
theorem dX5_needNumber_26 : decode cX5_needNumber 26 = .ok (.iload_n 2, 1) := by decide +kernel
theorem dX5_needNumber_27 : decode cX5_needNumber 27 = .ok (.if_icmp .le 9, 3) := by decide +kernel
theorem dX5_needNumber_30 : decode cX5_needNumber 30 = .ok (.aload_n 0, 1) := by decide +kernel
theorem dX5_needNumber_31 : decode cX5_needNumber 31 = .ok (.iconst 4, 1) := by decide +kernel
theorem dX5_needNumber_32 : decode cX5_needNumber 32 = .ok (.invokevirtual 83, 3) := by decide +kernel
theorem dX5_needNumber_35 : decode cX5_needNumber 35 = .ok (.ireturn, 1) := by decide +kernel
theorem dX5_needNumber_36 : decode cX5_needNumber 36 = .ok (.aload_n 0, 1) := by decide +kernel
theorem dX5_needNumber_37 : decode cX5_needNumber 37 = .ok (.aload_n 0, 1) := by decide +kernel
theorem dX5_needNumber_38 : decode cX5_needNumber 38 = .ok (.getfield 35, 3) := by decide +kernel
theorem dX5_needNumber_41 : decode cX5_needNumber 41 = .ok (.putfield 42, 3) := by decide +kernel
theorem dX5_needNumber_44 : decode cX5_needNumber 44 = .ok (.aload_n 0, 1) := by decide +kernel
theorem dX5_needNumber_45 : decode cX5_needNumber 45 = .ok (.invokevirtual 64, 3) := by decide +kernel
theorem dX5_needNumber_48 : decode cX5_needNumber 48 = .ok (.iconst 1, 1) := by decide +kernel
theorem dX5_needNumber_49 : decode cX5_needNumber 49 = .ok (.ireturn, 1) := by decide +kernel
theorem dX5_needEither_0 : decode cX5_needEither 0 = .ok (.aload_n 0, 1) := by decide +kernel
theorem dX5_needEither_1 : decode cX5_needEither 1 = .ok (.iconst 2, 1) := by decide +kernel
theorem dX5_needEither_2 : decode cX5_needEither 2 = .ok (.invokevirtual 79, 3) := by decide +kernel
theorem dX5_needEither_5 : decode cX5_needEither 5 = .ok (.istore_n 2, 1) := by decide +kernel
theorem dX5_needEither_6 : decode cX5_needEither 6 = .ok (.aload_n 0, 1) := by decide +kernel
theorem dX5_needEither_7 : decode cX5_needEither 7 = .ok (.iconst 0, 1) := by decide +kernel
theorem dX5_needEither_8 : decode cX5_needEither 8 = .ok (.iload_n 1, 1) := by decide +kernel
theorem dX5_needEither_9 : decode cX5_needEither 9 = .ok (.invokevirtual 86, 3) := by decide +kernel
theorem dX5_needEither_12 : decode cX5_needEither 12 = .ok (.ifCond .ne 5, 3) := by decide +kernel
theorem dX5_needEither_15 : decode cX5_needEither 15 = .ok (.iconst 0, 1) := by decide +kernel
theorem dX5_needEither_16 : decode cX5_needEither 16 = .ok (.ireturn, 1) := by decide +kernel
theorem dX5_needEither_17 : decode cX5_needEither 17 = .ok (.aload_n 0, 1) := by decide +kernel
theorem dX5_needEither_18 : decode cX5_needEither 18 = .ok (.iload_n 2, 1) := by decide +kernel
theorem dX5_needEither_19 : decode cX5_needEither 19 = .ok (.ifCond .eq 11, 3) := by decide +kernel
theorem dX5_needEither_22 : decode cX5_needEither 22 = .ok (.aload_n 0, 1) := by decide +kernel
theorem dX5_needEither_23 : decode cX5_needEither 23 = .ok (.getfield 42, 3) := by decide +kernel
theorem dX5_needEither_26 : decode cX5_needEither 26 = .ok (.ineg, 1) := by decide +kernel
theorem dX5_needEither_27 : decode cX5_needEither 27 = .ok (.goto 7, 3) := by decide +kernel
theorem dX5_needEither_30 : decode cX5_needEither 30 = .ok (.aload_n 0, 1) := by decide +kernel
theorem dX5_needEither_31 : decode cX5_needEither 31 = .ok (.getfield 42, 3) := by decide +kernel
theorem dX5_needEither_34 : decode cX5_needEither 34 = .ok (.putfield 42, 3) := by decide +kernel
theorem dX5_needEither_37 : decode cX5_needEither 37 = .ok (.iconst 1, 1) := by decide +kernel
theorem dX5_needEither_38 : decode cX5_needEither 38 = .ok (.ireturn, 1) := by decide +kernel
theorem dX5_seeKnown_0 : decode cX5_seeKnown 0 = .ok (.aload_n 0, 1) := by decide +kernel
theorem dX5_seeKnown_1 : decode cX5_seeKnown 1 = .ok (.invokevirtual 90, 3) := by decide +kernel
theorem dX5_seeKnown_4 : decode cX5_seeKnown 4 = .ok (.ifCond .ne 9, 3) := by decide +kernel
theorem dX5_seeKnown_7 : decode cX5_seeKnown 7 = .ok (.aload_n 0, 1) := by decide +kernel
theorem dX5_seeKnown_8 : decode cX5_seeKnown 8 = .ok (.iconst 2, 1) := by decide +kernel
theorem dX5_seeKnown_9 : decode cX5_seeKnown 9 = .ok (.invokevirtual 83, 3) := by decide +kernel
theorem dX5_seeKnown_12 : decode cX5_seeKnown 12 = .ok (.ireturn, 1) := by decide +kernel
theorem dX5_seeKnown_13 : decode cX5_seeKnown 13 = .ok (.aload_n 0, 1) := by decide +kernel
theorem dX5_seeKnown_14 : decode cX5_seeKnown 14 = .ok (.aload_n 1, 1) := by decide +kernel
theorem dX5_seeKnown_15 : decode cX5_seeKnown 15 = .ok (.iload_n 2, 1) := by decide +kernel
theorem dX5_seeKnown_16 : decode cX5_seeKnown 16 = .ok (.aload_n 0, 1) := by decide +kernel
theorem dX5_seeKnown_17 : decode cX5_seeKnown 17 = .ok (.getfield 38, 3) := by decide +kernel
theorem dX5_seeKnown_20 : decode cX5_seeKnown 20 = .ok (.invokevirtual 94, 3) := by decide +kernel
theorem dX5_seeKnown_23 : decode cX5_seeKnown 23 = .ok (.putfield 42, 3) := by decide +kernel
theorem dX5_seeKnown_26 : decode cX5_seeKnown 26 = .ok (.aload_n 0, 1) := by decide +kernel
theorem dX5_seeKnown_27 : decode cX5_seeKnown 27 = .ok (.getfield 42, 3) := by decide +kernel
theorem dX5_seeKnown_30 : decode cX5_seeKnown 30 = .ok (.iconst (-1), 1) := by decide +kernel
theorem dX5_seeKnown_31 : decode cX5_seeKnown 31 = .ok (.if_icmp .ne 11, 3) := by decide +kernel
theorem dX5_seeKnown_34 : decode cX5_seeKnown 34 = .ok (.aload_n 0, 1) := by decide +kernel
theorem dX5_seeKnown_35 : decode cX5_seeKnown 35 = .ok (.iconst 3, 1) := by decide +kernel
theorem dX5_seeKnown_36 : decode cX5_seeKnown 36 = .ok (.invokevirtual 83, 3) := by decide +kernel
theorem dX5_seeKnown_39 : decode cX5_seeKnown 39 = .ok (.ifCond .eq 7, 3) := by decide +kernel
theorem dX5_seeKnown_42 : decode cX5_seeKnown 42 = .ok (.iconst 1, 1) := by decide +kernel
theorem dX5_seeKnown_43 : decode cX5_seeKnown 43 = .ok (.goto 4, 3) := by decide +kernel
theorem dX5_seeKnown_46 : decode cX5_seeKnown 46 = .ok (.iconst 0, 1) := by decide +kernel
theorem dX5_seeKnown_47 : decode cX5_seeKnown 47 = .ok (.ireturn, 1) := by decide +kernel
theorem dX5_needKnown_0 : decode cX5_needKnown 0 = .ok (.aload_n 0, 1) := by decide +kernel
theorem dX5_needKnown_1 : decode cX5_needKnown 1 = .ok (.aload_n 1, 1) := by decide +kernel
theorem dX5_needKnown_2 : decode cX5_needKnown 2 = .ok (.iload_n 2, 1) := by decide +kernel
theorem dX5_needKnown_3 : decode cX5_needKnown 3 = .ok (.invokevirtual 100, 3) := by decide +kernel
theorem dX5_needKnown_6 : decode cX5_needKnown 6 = .ok (.ifCond .ne 5, 3) := by decide +kernel
theorem dX5_needKnown_9 : decode cX5_needKnown 9 = .ok (.iconst 0, 1) := by decide +kernel
theorem dX5_needKnown_10 : decode cX5_needKnown 10 = .ok (.ireturn, 1) := by decide +kernel
theorem dX5_needKnown_11 : decode cX5_needKnown 11 = .ok (.aload_n 0, 1) := by decide +kernel
theorem dX5_needKnown_12 : decode cX5_needKnown 12 = .ok (.invokevirtual 64, 3) := by decide +kernel
theorem dX5_needKnown_15 : decode cX5_needKnown 15 = .ok (.iconst 1, 1) := by decide +kernel
theorem dX5_needKnown_16 : decode cX5_needKnown 16 = .ok (.ireturn, 1) := by decide +kernel
theorem dX6_init_0 : decode cX6_init 0 = .ok (.aload_n 0, 1) := by decide +kernel
theorem dX6_init_1 : decode cX6_init 1 = .ok (.invokespecial 3, 3) := by decide +kernel
theorem dX6_init_4 : decode cX6_init 4 = .ok (.aload_n 0, 1) := by decide +kernel
theorem dX6_init_5 : decode cX6_init 5 = .ok (.iconst 4, 1) := by decide +kernel
theorem dX6_init_6 : decode cX6_init 6 = .ok (.bipush 60, 2) := by decide +kernel
theorem dX6_init_8 : decode cX6_init 8 = .ok (.multianewarray 9 2, 4) := by decide +kernel
theorem dX6_init_12 : decode cX6_init 12 = .ok (.putfield 11, 3) := by decide +kernel
theorem dX6_init_15 : decode cX6_init 15 = .ok (.aload_n 0, 1) := by decide +kernel
theorem dX6_init_16 : decode cX6_init 16 = .ok (.iconst 4, 1) := by decide +kernel
theorem dX6_init_17 : decode cX6_init 17 = .ok (.newarray .int, 2) := by decide +kernel
theorem dX6_init_19 : decode cX6_init 19 = .ok (.dup, 1) := by decide +kernel
theorem dX6_init_20 : decode cX6_init 20 = .ok (.iconst 0, 1) := by decide +kernel
theorem dX6_init_21 : decode cX6_init 21 = .ok (.iconst (-1), 1) := by decide +kernel
theorem dX6_init_22 : decode cX6_init 22 = .ok (.iastore, 1) := by decide +kernel
theorem dX6_init_23 : decode cX6_init 23 = .ok (.dup, 1) := by decide +kernel
theorem dX6_init_24 : decode cX6_init 24 = .ok (.iconst 1, 1) := by decide +kernel
theorem dX6_init_25 : decode cX6_init 25 = .ok (.iconst (-1), 1) := by decide +kernel
theorem dX6_init_26 : decode cX6_init 26 = .ok (.iastore, 1) := by decide +kernel
theorem dX6_init_27 : decode cX6_init 27 = .ok (.dup, 1) := by decide +kernel
theorem dX6_init_28 : decode cX6_init 28 = .ok (.iconst 2, 1) := by decide +kernel
theorem dX6_init_29 : decode cX6_init 29 = .ok (.iconst (-1), 1) := by decide +kernel
theorem dX6_init_30 : decode cX6_init 30 = .ok (.iastore, 1) := by decide +kernel
theorem dX6_init_31 : decode cX6_init 31 = .ok (.dup, 1) := by decide +kernel
theorem dX6_init_32 : decode cX6_init 32 = .ok (.iconst 3, 1) := by decide +kernel
theorem dX6_init_33 : decode cX6_init 33 = .ok (.iconst (-1), 1) := by decide +kernel
theorem dX6_init_34 : decode cX6_init 34 = .ok (.iastore, 1) := by decide +kernel
theorem dX6_init_35 : decode cX6_init 35 = .ok (.putfield 16, 3) := by decide +kernel
theorem dX6_init_38 : decode cX6_init 38 = .ok (.aload_n 0, 1) := by decide +kernel
theorem dX6_init_39 : decode cX6_init 39 = .ok (.iconst 4, 1) := by decide +kernel
theorem dX6_init_40 : decode cX6_init 40 = .ok (.newarray .int, 2) := by decide +kernel
theorem dX6_init_42 : decode cX6_init 42 = .ok (.putfield 20, 3) := by decide +kernel
theorem dX6_init_45 : decode cX6_init 45 = .ok (.return_, 1) := by decide +kernel
theorem dX6_isMissing_0 : decode cX6_isMissing 0 = .ok (.aload_n 0, 1) := by decide +kernel
theorem dX6_isMissing_1 : decode cX6_isMissing 1 = .ok (.getfield 16, 3) := by decide +kernel
theorem dX6_isMissing_4 : decode cX6_isMissing 4 = .ok (.iload_n 1, 1) := by decide +kernel
theorem dX6_isMissing_5 : decode cX6_isMissing 5 = .ok (.iaload, 1) := by decide +kernel
theorem dX6_isMissing_6 : decode cX6_isMissing 6 = .ok (.ifCond .ge 7, 3) := by decide +kernel
theorem dX6_isMissing_9 : decode cX6_isMissing 9 = .ok (.iconst 1, 1) := by decide +kernel
theorem dX6_isMissing_10 : decode cX6_isMissing 10 = .ok (.goto 4, 3) := by decide +kernel
theorem dX6_isMissing_13 : decode cX6_isMissing 13 = .ok (.iconst 0, 1) := by decide +kernel
theorem dX6_isMissing_14 : decode cX6_isMissing 14 = .ok (.ireturn, 1) := by decide +kernel
theorem dX6_holds_0 : decode cX6_holds 0 = .ok (.iload_n 2, 1) := by decide +kernel
theorem dX6_holds_1 : decode cX6_holds 1 = .ok (.ifCond .lt 29, 3) := by decide +kernel
theorem dX6_holds_4 : decode cX6_holds 4 = .ok (.iload_n 3, 1) := by decide +kernel
theorem dX6_holds_5 : decode cX6_holds 5 = .ok (.aload_n 0, 1) := by decide +kernel
theorem dX6_holds_6 : decode cX6_holds 6 = .ok (.getfield 16, 3) := by decide +kernel
theorem dX6_holds_9 : decode cX6_holds 9 = .ok (.iload_n 1, 1) := by decide +kernel
theorem dX6_holds_10 : decode cX6_holds 10 = .ok (.iaload, 1) := by decide +kernel
theorem dX6_holds_11 : decode cX6_holds 11 = .ok (.if_icmp .gt 19, 3) := by decide +kernel
theorem dX6_holds_14 : decode cX6_holds 14 = .ok (.iload_n 2, 1) := by decide +kernel
theorem dX6_holds_15 : decode cX6_holds 15 = .ok (.aload_n 0, 1) := by decide +kernel
theorem dX6_holds_16 : decode cX6_holds 16 = .ok (.getfield 16, 3) := by decide +kernel
theorem dX6_holds_19 : decode cX6_holds 19 = .ok (.iload_n 1, 1) := by decide +kernel
theorem dX6_holds_20 : decode cX6_holds 20 = .ok (.iaload, 1) := by decide +kernel
theorem dX6_holds_21 : decode cX6_holds 21 = .ok (.iload_n 3, 1) := by decide +kernel
theorem dX6_holds_22 : decode cX6_holds 22 = .ok (.isub, 1) := by decide +kernel
theorem dX6_holds_23 : decode cX6_holds 23 = .ok (.if_icmp .gt 7, 3) := by decide +kernel
theorem dX6_holds_26 : decode cX6_holds 26 = .ok (.iconst 1, 1) := by decide +kernel
theorem dX6_holds_27 : decode cX6_holds 27 = .ok (.goto 4, 3) := by decide +kernel
theorem dX6_holds_30 : decode cX6_holds 30 = .ok (.iconst 0, 1) := by decide +kernel
theorem dX6_holds_31 : decode cX6_holds 31 = .ok (.ireturn, 1) := by decide +kernel
theorem dX6_lay_0 : decode cX6_lay 0 = .ok (.aload_n 0, 1) := by decide +kernel
theorem dX6_lay_1 : decode cX6_lay 1 = .ok (.getfield 16, 3) := by decide +kernel
theorem dX6_lay_4 : decode cX6_lay 4 = .ok (.iload_n 1, 1) := by decide +kernel
theorem dX6_lay_5 : decode cX6_lay 5 = .ok (.iload_n 3, 1) := by decide +kernel
theorem dX6_lay_6 : decode cX6_lay 6 = .ok (.iastore, 1) := by decide +kernel
theorem dX6_lay_7 : decode cX6_lay 7 = .ok (.aload_n 0, 1) := by decide +kernel
theorem dX6_lay_8 : decode cX6_lay 8 = .ok (.getfield 20, 3) := by decide +kernel
theorem dX6_lay_11 : decode cX6_lay 11 = .ok (.iload_n 1, 1) := by decide +kernel
theorem dX6_lay_12 : decode cX6_lay 12 = .ok (.iload_n 2, 1) := by decide +kernel
theorem dX6_lay_13 : decode cX6_lay 13 = .ok (.iastore, 1) := by decide +kernel
theorem dX6_lay_14 : decode cX6_lay 14 = .ok (.iconst 0, 1) := by decide +kernel
theorem dX6_lay_15 : decode cX6_lay 15 = .ok (.istore 4, 2) := by decide +kernel
theorem dX6_lay_17 : decode cX6_lay 17 = .ok (.iload 4, 2) := by decide +kernel
theorem dX6_lay_19 : decode cX6_lay 19 = .ok (.iload_n 3, 1) := by decide +kernel
theorem dX6_lay_20 : decode cX6_lay 20 = .ok (.if_icmp .ge 19, 3) := by decide +kernel
theorem dX6_lay_23 : decode cX6_lay 23 = .ok (.aload_n 0, 1) := by decide +kernel
theorem dX6_lay_24 : decode cX6_lay 24 = .ok (.getfield 11, 3) := by decide +kernel
theorem dX6_lay_27 : decode cX6_lay 27 = .ok (.iload_n 1, 1) := by decide +kernel
theorem dX6_lay_28 : decode cX6_lay 28 = .ok (.aaload, 1) := by decide +kernel
theorem dX6_lay_29 : decode cX6_lay 29 = .ok (.iload 4, 2) := by decide +kernel
theorem dX6_lay_31 : decode cX6_lay 31 = .ok (.lconst 0, 1) := by decide +kernel
theorem dX6_lay_32 : decode cX6_lay 32 = .ok (.lastore, 1) := by decide +kernel
theorem dX6_lay_33 : decode cX6_lay 33 = .ok (.iinc 4 1, 3) := by decide +kernel
theorem dX6_lay_36 : decode cX6_lay 36 = .ok (.goto (-19), 3) := by decide +kernel
theorem dX6_lay_39 : decode cX6_lay 39 = .ok (.return_, 1) := by decide +kernel
theorem dX6_put_0 : decode cX6_put 0 = .ok (.aload_n 0, 1) := by decide +kernel
theorem dX6_put_1 : decode cX6_put 1 = .ok (.getfield 20, 3) := by decide +kernel
theorem dX6_put_4 : decode cX6_put 4 = .ok (.iload_n 1, 1) := by decide +kernel
theorem dX6_put_5 : decode cX6_put 5 = .ok (.iaload, 1) := by decide +kernel
theorem dX6_put_6 : decode cX6_put 6 = .ok (.tableswitch 70 0 2 #[26, 41, 56], 26) := by decide +kernel
theorem dX6_put_32 : decode cX6_put 32 = .ok (.aload_n 0, 1) := by decide +kernel
theorem dX6_put_33 : decode cX6_put 33 = .ok (.getfield 11, 3) := by decide +kernel
theorem dX6_put_36 : decode cX6_put 36 = .ok (.iload_n 1, 1) := by decide +kernel
theorem dX6_put_37 : decode cX6_put 37 = .ok (.aaload, 1) := by decide +kernel
theorem dX6_put_38 : decode cX6_put 38 = .ok (.iload_n 2, 1) := by decide +kernel
theorem dX6_put_39 : decode cX6_put 39 = .ok (.lload_n 3, 1) := by decide +kernel
theorem dX6_put_40 : decode cX6_put 40 = .ok (.l2i, 1) := by decide +kernel
theorem dX6_put_41 : decode cX6_put 41 = .ok (.i2b, 1) := by decide +kernel
theorem dX6_put_42 : decode cX6_put 42 = .ok (.i2l, 1) := by decide +kernel
theorem dX6_put_43 : decode cX6_put 43 = .ok (.lastore, 1) := by decide +kernel
theorem dX6_put_44 : decode cX6_put 44 = .ok (.goto 41, 3) := by decide +kernel
theorem dX6_put_47 : decode cX6_put 47 = .ok (.aload_n 0, 1) := by decide +kernel
theorem dX6_put_48 : decode cX6_put 48 = .ok (.getfield 11, 3) := by decide +kernel
theorem dX6_put_51 : decode cX6_put 51 = .ok (.iload_n 1, 1) := by decide +kernel
theorem dX6_put_52 : decode cX6_put 52 = .ok (.aaload, 1) := by decide +kernel
theorem dX6_put_53 : decode cX6_put 53 = .ok (.iload_n 2, 1) := by decide +kernel
theorem dX6_put_54 : decode cX6_put 54 = .ok (.lload_n 3, 1) := by decide +kernel
theorem dX6_put_55 : decode cX6_put 55 = .ok (.l2i, 1) := by decide +kernel
theorem dX6_put_56 : decode cX6_put 56 = .ok (.i2s, 1) := by decide +kernel
theorem dX6_put_57 : decode cX6_put 57 = .ok (.i2l, 1) := by decide +kernel
theorem dX6_put_58 : decode cX6_put 58 = .ok (.lastore, 1) := by decide +kernel
theorem dX6_put_59 : decode cX6_put 59 = .ok (.goto 26, 3) := by decide +kernel
theorem dX6_put_62 : decode cX6_put 62 = .ok (.aload_n 0, 1) := by decide +kernel
theorem dX6_put_63 : decode cX6_put 63 = .ok (.getfield 11, 3) := by decide +kernel
theorem dX6_put_66 : decode cX6_put 66 = .ok (.iload_n 1, 1) := by decide +kernel
theorem dX6_put_67 : decode cX6_put 67 = .ok (.aaload, 1) := by decide +kernel
theorem dX6_put_68 : decode cX6_put 68 = .ok (.iload_n 2, 1) := by decide +kernel
theorem dX6_put_69 : decode cX6_put 69 = .ok (.lload_n 3, 1) := by decide +kernel
theorem dX6_put_70 : decode cX6_put 70 = .ok (.l2i, 1) := by decide +kernel
theorem dX6_put_71 : decode cX6_put 71 = .ok (.i2l, 1) := by decide +kernel
theorem dX6_put_72 : decode cX6_put 72 = .ok (.lastore, 1) := by decide +kernel
theorem dX6_put_73 : decode cX6_put 73 = .ok (.goto 12, 3) := by decide +kernel
theorem dX6_put_76 : decode cX6_put 76 = .ok (.aload_n 0, 1) := by decide +kernel
theorem dX6_put_77 : decode cX6_put 77 = .ok (.getfield 11, 3) := by decide +kernel
theorem dX6_put_80 : decode cX6_put 80 = .ok (.iload_n 1, 1) := by decide +kernel
theorem dX6_put_81 : decode cX6_put 81 = .ok (.aaload, 1) := by decide +kernel
theorem dX6_put_82 : decode cX6_put 82 = .ok (.iload_n 2, 1) := by decide +kernel
theorem dX6_put_83 : decode cX6_put 83 = .ok (.lload_n 3, 1) := by decide +kernel
theorem dX6_put_84 : decode cX6_put 84 = .ok (.lastore, 1) := by decide +kernel
theorem dX6_put_85 : decode cX6_put 85 = .ok (.return_, 1) := by decide +kernel
theorem dX7_init_0 : decode cX7_init 0 = .ok (.aload_n 0, 1) := by decide +kernel
theorem dX7_init_1 : decode cX7_init 1 = .ok (.invokespecial 3, 3) := by decide +kernel
theorem dX7_init_4 : decode cX7_init 4 = .ok (.aload_n 0, 1) := by decide +kernel
theorem dX7_init_5 : decode cX7_init 5 = .ok (.bipush 60, 2) := by decide +kernel
theorem dX7_init_7 : decode cX7_init 7 = .ok (.newarray .int, 2) := by decide +kernel
theorem dX7_init_9 : decode cX7_init 9 = .ok (.putfield 9, 3) := by decide +kernel
theorem dX7_init_12 : decode cX7_init 12 = .ok (.aload_n 0, 1) := by decide +kernel
theorem dX7_init_13 : decode cX7_init 13 = .ok (.bipush 60, 2) := by decide +kernel
theorem dX7_init_15 : decode cX7_init 15 = .ok (.newarray .int, 2) := by decide +kernel
theorem dX7_init_17 : decode cX7_init 17 = .ok (.putfield 15, 3) := by decide +kernel
theorem dX7_init_20 : decode cX7_init 20 = .ok (.aload_n 0, 1) := by decide +kernel
theorem dX7_init_21 : decode cX7_init 21 = .ok (.bipush 60, 2) := by decide +kernel
theorem dX7_init_23 : decode cX7_init 23 = .ok (.newarray .int, 2) := by decide +kernel
theorem dX7_init_25 : decode cX7_init 25 = .ok (.putfield 18, 3) := by decide +kernel
theorem dX7_init_28 : decode cX7_init 28 = .ok (.aload_n 0, 1) := by decide +kernel
theorem dX7_init_29 : decode cX7_init 29 = .ok (.bipush 60, 2) := by decide +kernel
theorem dX7_init_31 : decode cX7_init 31 = .ok (.newarray .int, 2) := by decide +kernel
theorem dX7_init_33 : decode cX7_init 33 = .ok (.putfield 21, 3) := by decide +kernel
theorem dX7_init_36 : decode cX7_init 36 = .ok (.aload_n 0, 1) := by decide +kernel
theorem dX7_init_37 : decode cX7_init 37 = .ok (.bipush 60, 2) := by decide +kernel
theorem dX7_init_39 : decode cX7_init 39 = .ok (.newarray .int, 2) := by decide +kernel
theorem dX7_init_41 : decode cX7_init 41 = .ok (.putfield 24, 3) := by decide +kernel
theorem dX7_init_44 : decode cX7_init 44 = .ok (.aload_n 0, 1) := by decide +kernel
theorem dX7_init_45 : decode cX7_init 45 = .ok (.bipush 60, 2) := by decide +kernel
theorem dX7_init_47 : decode cX7_init 47 = .ok (.newarray .int, 2) := by decide +kernel
theorem dX7_init_49 : decode cX7_init 49 = .ok (.putfield 27, 3) := by decide +kernel
theorem dX7_init_52 : decode cX7_init 52 = .ok (.aload_n 0, 1) := by decide +kernel
theorem dX7_init_53 : decode cX7_init 53 = .ok (.iconst 0, 1) := by decide +kernel
theorem dX7_init_54 : decode cX7_init 54 = .ok (.putfield 30, 3) := by decide +kernel
theorem dX7_init_57 : decode cX7_init 57 = .ok (.aload_n 0, 1) := by decide +kernel
theorem dX7_init_58 : decode cX7_init 58 = .ok (.iconst 0, 1) := by decide +kernel
theorem dX7_init_59 : decode cX7_init 59 = .ok (.putfield 34, 3) := by decide +kernel
theorem dX7_init_62 : decode cX7_init 62 = .ok (.aload_n 0, 1) := by decide +kernel
theorem dX7_init_63 : decode cX7_init 63 = .ok (.iconst 0, 1) := by decide +kernel
theorem dX7_init_64 : decode cX7_init 64 = .ok (.putfield 37, 3) := by decide +kernel
theorem dX7_init_67 : decode cX7_init 67 = .ok (.return_, 1) := by decide +kernel
theorem dX7_clear_0 : decode cX7_clear 0 = .ok (.aload_n 0, 1) := by decide +kernel
theorem dX7_clear_1 : decode cX7_clear 1 = .ok (.iconst 0, 1) := by decide +kernel
theorem dX7_clear_2 : decode cX7_clear 2 = .ok (.putfield 30, 3) := by decide +kernel
theorem dX7_clear_5 : decode cX7_clear 5 = .ok (.aload_n 0, 1) := by decide +kernel
theorem dX7_clear_6 : decode cX7_clear 6 = .ok (.iconst 0, 1) := by decide +kernel
theorem dX7_clear_7 : decode cX7_clear 7 = .ok (.putfield 34, 3) := by decide +kernel
theorem dX7_clear_10 : decode cX7_clear 10 = .ok (.aload_n 0, 1) := by decide +kernel
theorem dX7_clear_11 : decode cX7_clear 11 = .ok (.iconst 0, 1) := by decide +kernel
theorem dX7_clear_12 : decode cX7_clear 12 = .ok (.putfield 37, 3) := by decide +kernel
theorem dX7_clear_15 : decode cX7_clear 15 = .ok (.return_, 1) := by decide +kernel
theorem dX7_copyFrom_0 : decode cX7_copyFrom 0 = .ok (.aload_n 1, 1) := by decide +kernel
theorem dX7_copyFrom_1 : decode cX7_copyFrom 1 = .ok (.getfield 9, 3) := by decide +kernel
theorem dX7_copyFrom_4 : decode cX7_copyFrom 4 = .ok (.iconst 0, 1) := by decide +kernel
theorem dX7_copyFrom_5 : decode cX7_copyFrom 5 = .ok (.aload_n 0, 1) := by decide +kernel
theorem dX7_copyFrom_6 : decode cX7_copyFrom 6 = .ok (.getfield 9, 3) := by decide +kernel
theorem dX7_copyFrom_9 : decode cX7_copyFrom 9 = .ok (.iconst 0, 1) := by decide +kernel
theorem dX7_copyFrom_10 : decode cX7_copyFrom 10 = .ok (.aload_n 0, 1) := by decide +kernel
theorem dX7_copyFrom_11 : decode cX7_copyFrom 11 = .ok (.getfield 9, 3) := by decide +kernel
theorem dX7_copyFrom_14 : decode cX7_copyFrom 14 = .ok (.arraylength, 1) := by decide +kernel
theorem dX7_copyFrom_15 : decode cX7_copyFrom 15 = .ok (.invokestatic 41, 3) := by decide +kernel
theorem dX7_copyFrom_18 : decode cX7_copyFrom 18 = .ok (.aload_n 1, 1) := by decide +kernel
theorem dX7_copyFrom_19 : decode cX7_copyFrom 19 = .ok (.getfield 15, 3) := by decide +kernel
theorem dX7_copyFrom_22 : decode cX7_copyFrom 22 = .ok (.iconst 0, 1) := by decide +kernel
theorem dX7_copyFrom_23 : decode cX7_copyFrom 23 = .ok (.aload_n 0, 1) := by decide +kernel
theorem dX7_copyFrom_24 : decode cX7_copyFrom 24 = .ok (.getfield 15, 3) := by decide +kernel
theorem dX7_copyFrom_27 : decode cX7_copyFrom 27 = .ok (.iconst 0, 1) := by decide +kernel
theorem dX7_copyFrom_28 : decode cX7_copyFrom 28 = .ok (.aload_n 0, 1) := by decide +kernel
theorem dX7_copyFrom_29 : decode cX7_copyFrom 29 = .ok (.getfield 15, 3) := by decide +kernel
theorem dX7_copyFrom_32 : decode cX7_copyFrom 32 = .ok (.arraylength, 1) := by decide +kernel
theorem dX7_copyFrom_33 : decode cX7_copyFrom 33 = .ok (.invokestatic 41, 3) := by decide +kernel
theorem dX7_copyFrom_36 : decode cX7_copyFrom 36 = .ok (.aload_n 1, 1) := by decide +kernel
theorem dX7_copyFrom_37 : decode cX7_copyFrom 37 = .ok (.getfield 18, 3) := by decide +kernel
theorem dX7_copyFrom_40 : decode cX7_copyFrom 40 = .ok (.iconst 0, 1) := by decide +kernel
theorem dX7_copyFrom_41 : decode cX7_copyFrom 41 = .ok (.aload_n 0, 1) := by decide +kernel
theorem dX7_copyFrom_42 : decode cX7_copyFrom 42 = .ok (.getfield 18, 3) := by decide +kernel
theorem dX7_copyFrom_45 : decode cX7_copyFrom 45 = .ok (.iconst 0, 1) := by decide +kernel
theorem dX7_copyFrom_46 : decode cX7_copyFrom 46 = .ok (.aload_n 0, 1) := by decide +kernel
theorem dX7_copyFrom_47 : decode cX7_copyFrom 47 = .ok (.getfield 18, 3) := by decide +kernel
theorem dX7_copyFrom_50 : decode cX7_copyFrom 50 = .ok (.arraylength, 1) := by decide +kernel
theorem dX7_copyFrom_51 : decode cX7_copyFrom 51 = .ok (.invokestatic 41, 3) := by decide +kernel
theorem dX7_copyFrom_54 : decode cX7_copyFrom 54 = .ok (.aload_n 1, 1) := by decide +kernel
theorem dX7_copyFrom_55 : decode cX7_copyFrom 55 = .ok (.getfield 21, 3) := by decide +kernel
theorem dX7_copyFrom_58 : decode cX7_copyFrom 58 = .ok (.iconst 0, 1) := by decide +kernel
theorem dX7_copyFrom_59 : decode cX7_copyFrom 59 = .ok (.aload_n 0, 1) := by decide +kernel
theorem dX7_copyFrom_60 : decode cX7_copyFrom 60 = .ok (.getfield 21, 3) := by decide +kernel
theorem dX7_copyFrom_63 : decode cX7_copyFrom 63 = .ok (.iconst 0, 1) := by decide +kernel
theorem dX7_copyFrom_64 : decode cX7_copyFrom 64 = .ok (.aload_n 0, 1) := by decide +kernel
theorem dX7_copyFrom_65 : decode cX7_copyFrom 65 = .ok (.getfield 21, 3) := by decide +kernel
theorem dX7_copyFrom_68 : decode cX7_copyFrom 68 = .ok (.arraylength, 1) := by decide +kernel
theorem dX7_copyFrom_69 : decode cX7_copyFrom 69 = .ok (.invokestatic 41, 3) := by decide +kernel
theorem dX7_copyFrom_72 : decode cX7_copyFrom 72 = .ok (.aload_n 1, 1) := by decide +kernel
theorem dX7_copyFrom_73 : decode cX7_copyFrom 73 = .ok (.getfield 24, 3) := by decide +kernel
theorem dX7_copyFrom_76 : decode cX7_copyFrom 76 = .ok (.iconst 0, 1) := by decide +kernel
theorem dX7_copyFrom_77 : decode cX7_copyFrom 77 = .ok (.aload_n 0, 1) := by decide +kernel
theorem dX7_copyFrom_78 : decode cX7_copyFrom 78 = .ok (.getfield 24, 3) := by decide +kernel
theorem dX7_copyFrom_81 : decode cX7_copyFrom 81 = .ok (.iconst 0, 1) := by decide +kernel
theorem dX7_copyFrom_82 : decode cX7_copyFrom 82 = .ok (.aload_n 0, 1) := by decide +kernel
theorem dX7_copyFrom_83 : decode cX7_copyFrom 83 = .ok (.getfield 24, 3) := by decide +kernel
theorem dX7_copyFrom_86 : decode cX7_copyFrom 86 = .ok (.arraylength, 1) := by decide +kernel
theorem dX7_copyFrom_87 : decode cX7_copyFrom 87 = .ok (.invokestatic 41, 3) := by decide +kernel
theorem dX7_copyFrom_90 : decode cX7_copyFrom 90 = .ok (.aload_n 1, 1) := by decide +kernel
theorem dX7_copyFrom_91 : decode cX7_copyFrom 91 = .ok (.getfield 27, 3) := by decide +kernel
theorem dX7_copyFrom_94 : decode cX7_copyFrom 94 = .ok (.iconst 0, 1) := by decide +kernel
theorem dX7_copyFrom_95 : decode cX7_copyFrom 95 = .ok (.aload_n 0, 1) := by decide +kernel
theorem dX7_copyFrom_96 : decode cX7_copyFrom 96 = .ok (.getfield 27, 3) := by decide +kernel
theorem dX7_copyFrom_99 : decode cX7_copyFrom 99 = .ok (.iconst 0, 1) := by decide +kernel
theorem dX7_copyFrom_100 : decode cX7_copyFrom 100 = .ok (.aload_n 0, 1) := by decide +kernel
theorem dX7_copyFrom_101 : decode cX7_copyFrom 101 = .ok (.getfield 27, 3) := by decide +kernel
theorem dX7_copyFrom_104 : decode cX7_copyFrom 104 = .ok (.arraylength, 1) := by decide +kernel
theorem dX7_copyFrom_105 : decode cX7_copyFrom 105 = .ok (.invokestatic 41, 3) := by decide +kernel
theorem dX7_copyFrom_108 : decode cX7_copyFrom 108 = .ok (.aload_n 0, 1) := by decide +kernel
theorem dX7_copyFrom_109 : decode cX7_copyFrom 109 = .ok (.aload_n 1, 1) := by decide +kernel
theorem dX7_copyFrom_110 : decode cX7_copyFrom 110 = .ok (.getfield 30, 3) := by decide +kernel
theorem dX7_copyFrom_113 : decode cX7_copyFrom 113 = .ok (.putfield 30, 3) := by decide +kernel
theorem dX7_copyFrom_116 : decode cX7_copyFrom 116 = .ok (.aload_n 0, 1) := by decide +kernel
theorem dX7_copyFrom_117 : decode cX7_copyFrom 117 = .ok (.aload_n 1, 1) := by decide +kernel
theorem dX7_copyFrom_118 : decode cX7_copyFrom 118 = .ok (.getfield 34, 3) := by decide +kernel
theorem dX7_copyFrom_121 : decode cX7_copyFrom 121 = .ok (.putfield 34, 3) := by decide +kernel
theorem dX7_copyFrom_124 : decode cX7_copyFrom 124 = .ok (.aload_n 0, 1) := by decide +kernel
theorem dX7_copyFrom_125 : decode cX7_copyFrom 125 = .ok (.aload_n 1, 1) := by decide +kernel
theorem dX7_copyFrom_126 : decode cX7_copyFrom 126 = .ok (.getfield 37, 3) := by decide +kernel
theorem dX7_copyFrom_129 : decode cX7_copyFrom 129 = .ok (.putfield 37, 3) := by decide +kernel
theorem dX7_copyFrom_132 : decode cX7_copyFrom 132 = .ok (.return_, 1) := by decide +kernel
theorem dX7_addRow_0 : decode cX7_addRow 0 = .ok (.aload_n 0, 1) := by decide +kernel
theorem dX7_addRow_1 : decode cX7_addRow 1 = .ok (.getfield 30, 3) := by decide +kernel
theorem dX7_addRow_4 : decode cX7_addRow 4 = .ok (.istore_n 2, 1) := by decide +kernel
theorem dX7_addRow_5 : decode cX7_addRow 5 = .ok (.aload_n 0, 1) := by decide +kernel
theorem dX7_addRow_6 : decode cX7_addRow 6 = .ok (.getfield 9, 3) := by decide +kernel
theorem dX7_addRow_9 : decode cX7_addRow 9 = .ok (.iload_n 2, 1) := by decide +kernel
theorem dX7_addRow_10 : decode cX7_addRow 10 = .ok (.iload_n 1, 1) := by decide +kernel
theorem dX7_addRow_11 : decode cX7_addRow 11 = .ok (.iastore, 1) := by decide +kernel
theorem dX7_addRow_12 : decode cX7_addRow 12 = .ok (.aload_n 0, 1) := by decide +kernel
theorem dX7_addRow_13 : decode cX7_addRow 13 = .ok (.getfield 15, 3) := by decide +kernel
theorem dX7_addRow_16 : decode cX7_addRow 16 = .ok (.iload_n 2, 1) := by decide +kernel
theorem dX7_addRow_17 : decode cX7_addRow 17 = .ok (.iconst 0, 1) := by decide +kernel
theorem dX7_addRow_18 : decode cX7_addRow 18 = .ok (.iastore, 1) := by decide +kernel
theorem dX7_addRow_19 : decode cX7_addRow 19 = .ok (.aload_n 0, 1) := by decide +kernel
theorem dX7_addRow_20 : decode cX7_addRow 20 = .ok (.getfield 18, 3) := by decide +kernel
theorem dX7_addRow_23 : decode cX7_addRow 23 = .ok (.iload_n 2, 1) := by decide +kernel
theorem dX7_addRow_24 : decode cX7_addRow 24 = .ok (.iconst 0, 1) := by decide +kernel
theorem dX7_addRow_25 : decode cX7_addRow 25 = .ok (.iastore, 1) := by decide +kernel
theorem dX7_addRow_26 : decode cX7_addRow 26 = .ok (.aload_n 0, 1) := by decide +kernel
theorem dX7_addRow_27 : decode cX7_addRow 27 = .ok (.getfield 21, 3) := by decide +kernel
theorem dX7_addRow_30 : decode cX7_addRow 30 = .ok (.iload_n 2, 1) := by decide +kernel
theorem dX7_addRow_31 : decode cX7_addRow 31 = .ok (.iconst 0, 1) := by decide +kernel
theorem dX7_addRow_32 : decode cX7_addRow 32 = .ok (.iastore, 1) := by decide +kernel
theorem dX7_addRow_33 : decode cX7_addRow 33 = .ok (.aload_n 0, 1) := by decide +kernel
theorem dX7_addRow_34 : decode cX7_addRow 34 = .ok (.getfield 24, 3) := by decide +kernel
theorem dX7_addRow_37 : decode cX7_addRow 37 = .ok (.iload_n 2, 1) := by decide +kernel
theorem dX7_addRow_38 : decode cX7_addRow 38 = .ok (.iconst 0, 1) := by decide +kernel
theorem dX7_addRow_39 : decode cX7_addRow 39 = .ok (.iastore, 1) := by decide +kernel
theorem dX7_addRow_40 : decode cX7_addRow 40 = .ok (.aload_n 0, 1) := by decide +kernel
theorem dX7_addRow_41 : decode cX7_addRow 41 = .ok (.getfield 27, 3) := by decide +kernel
theorem dX7_addRow_44 : decode cX7_addRow 44 = .ok (.iload_n 2, 1) := by decide +kernel
theorem dX7_addRow_45 : decode cX7_addRow 45 = .ok (.iconst 0, 1) := by decide +kernel
theorem dX7_addRow_46 : decode cX7_addRow 46 = .ok (.iastore, 1) := by decide +kernel
theorem dX7_addRow_47 : decode cX7_addRow 47 = .ok (.aload_n 0, 1) := by decide +kernel
theorem dX7_addRow_48 : decode cX7_addRow 48 = .ok (.dup, 1) := by decide +kernel
theorem dX7_addRow_49 : decode cX7_addRow 49 = .ok (.getfield 30, 3) := by decide +kernel
theorem dX7_addRow_52 : decode cX7_addRow 52 = .ok (.iconst 1, 1) := by decide +kernel
theorem dX7_addRow_53 : decode cX7_addRow 53 = .ok (.iadd, 1) := by decide +kernel
theorem dX7_addRow_54 : decode cX7_addRow 54 = .ok (.putfield 30, 3) := by decide +kernel
theorem dX7_addRow_57 : decode cX7_addRow 57 = .ok (.iload_n 2, 1) := by decide +kernel
theorem dX7_addRow_58 : decode cX7_addRow 58 = .ok (.ireturn, 1) := by decide +kernel
theorem dX8_init_0 : decode cX8_init 0 = .ok (.aload_n 0, 1) := by decide +kernel
theorem dX8_init_1 : decode cX8_init 1 = .ok (.invokespecial 3, 3) := by decide +kernel
theorem dX8_init_4 : decode cX8_init 4 = .ok (.aload_n 0, 1) := by decide +kernel
theorem dX8_init_5 : decode cX8_init 5 = .ok (.iconst 3, 1) := by decide +kernel
theorem dX8_init_6 : decode cX8_init 6 = .ok (.newarray .int, 2) := by decide +kernel
theorem dX8_init_8 : decode cX8_init 8 = .ok (.putfield 9, 3) := by decide +kernel
theorem dX8_init_11 : decode cX8_init 11 = .ok (.aload_n 0, 1) := by decide +kernel
theorem dX8_init_12 : decode cX8_init 12 = .ok (.iconst 0, 1) := by decide +kernel
theorem dX8_init_13 : decode cX8_init 13 = .ok (.putfield 15, 3) := by decide +kernel
theorem dX8_init_16 : decode cX8_init 16 = .ok (.return_, 1) := by decide +kernel
theorem dX8_readWeeks_0 : decode cX8_readWeeks 0 = .ok (.aload 4, 2) := by decide +kernel
theorem dX8_readWeeks_2 : decode cX8_readWeeks 2 = .ok (.invokevirtual 19, 3) := by decide +kernel
theorem dX8_readWeeks_5 : decode cX8_readWeeks 5 = .ok (.aload 4, 2) := by decide +kernel
theorem dX8_readWeeks_7 : decode cX8_readWeeks 7 = .ok (.iconst 1, 1) := by decide +kernel
theorem dX8_readWeeks_8 : decode cX8_readWeeks 8 = .ok (.putfield 24, 3) := by decide +kernel
theorem dX8_readWeeks_11 : decode cX8_readWeeks 11 = .ok (.aload_n 0, 1) := by decide +kernel
theorem dX8_readWeeks_12 : decode cX8_readWeeks 12 = .ok (.iconst 0, 1) := by decide +kernel
theorem dX8_readWeeks_13 : decode cX8_readWeeks 13 = .ok (.putfield 15, 3) := by decide +kernel
theorem dX8_readWeeks_16 : decode cX8_readWeeks 16 = .ok (.aload_n 1, 1) := by decide +kernel
theorem dX8_readWeeks_17 : decode cX8_readWeeks 17 = .ok (.iload_n 2, 1) := by decide +kernel
theorem dX8_readWeeks_18 : decode cX8_readWeeks 18 = .ok (.invokevirtual 28, 3) := by decide +kernel
theorem dX8_readWeeks_21 : decode cX8_readWeeks 21 = .ok (.iconst 0, 1) := by decide +kernel
theorem dX8_readWeeks_22 : decode cX8_readWeeks 22 = .ok (.istore 5, 2) := by decide +kernel
theorem dX8_readWeeks_24 : decode cX8_readWeeks 24 = .ok (.iload 5, 2) := by decide +kernel
theorem dX8_readWeeks_26 : decode cX8_readWeeks 26 = .ok (.iload_n 2, 1) := by decide +kernel
theorem dX8_readWeeks_27 : decode cX8_readWeeks 27 = .ok (.if_icmp .gt 79, 3) := by decide +kernel
theorem dX8_readWeeks_30 : decode cX8_readWeeks 30 = .ok (.aload_n 1, 1) := by decide +kernel
theorem dX8_readWeeks_31 : decode cX8_readWeeks 31 = .ok (.getfield 34, 3) := by decide +kernel
theorem dX8_readWeeks_34 : decode cX8_readWeeks 34 = .ok (.ifCond .ne 72, 3) := by decide +kernel
theorem dX8_readWeeks_37 : decode cX8_readWeeks 37 = .ok (.aload_n 1, 1) := by decide +kernel
theorem dX8_readWeeks_38 : decode cX8_readWeeks 38 = .ok (.getfield 37, 3) := by decide +kernel
theorem dX8_readWeeks_41 : decode cX8_readWeeks 41 = .ok (.ifCond .eq 65, 3) := by decide +kernel
theorem dX8_readWeeks_44 : decode cX8_readWeeks 44 = .ok (.aload_n 1, 1) := by decide +kernel
theorem dX8_readWeeks_45 : decode cX8_readWeeks 45 = .ok (.invokevirtual 40, 3) := by decide +kernel
theorem dX8_readWeeks_48 : decode cX8_readWeeks 48 = .ok (.bipush 28, 2) := by decide +kernel
theorem dX8_readWeeks_50 : decode cX8_readWeeks 50 = .ok (.if_icmp .ne 13, 3) := by decide +kernel
theorem dX8_readWeeks_53 : decode cX8_readWeeks 53 = .ok (.aload_n 0, 1) := by decide +kernel
theorem dX8_readWeeks_54 : decode cX8_readWeeks 54 = .ok (.aload_n 1, 1) := by decide +kernel
theorem dX8_readWeeks_55 : decode cX8_readWeeks 55 = .ok (.aload 4, 2) := by decide +kernel
theorem dX8_readWeeks_57 : decode cX8_readWeeks 57 = .ok (.invokevirtual 44, 3) := by decide +kernel
theorem dX8_readWeeks_60 : decode cX8_readWeeks 60 = .ok (.goto 28, 3) := by decide +kernel
theorem dX8_readWeeks_63 : decode cX8_readWeeks 63 = .ok (.aload_n 0, 1) := by decide +kernel
theorem dX8_readWeeks_64 : decode cX8_readWeeks 64 = .ok (.aload_n 1, 1) := by decide +kernel
theorem dX8_readWeeks_65 : decode cX8_readWeeks 65 = .ok (.aload 4, 2) := by decide +kernel
theorem dX8_readWeeks_67 : decode cX8_readWeeks 67 = .ok (.invokevirtual 48, 3) := by decide +kernel
theorem dX8_readWeeks_70 : decode cX8_readWeeks 70 = .ok (.ifCond .eq 17, 3) := by decide +kernel
theorem dX8_readWeeks_73 : decode cX8_readWeeks 73 = .ok (.aload_n 1, 1) := by decide +kernel
theorem dX8_readWeeks_74 : decode cX8_readWeeks 74 = .ok (.aload_n 3, 1) := by decide +kernel
theorem dX8_readWeeks_75 : decode cX8_readWeeks 75 = .ok (.aload 4, 2) := by decide +kernel
theorem dX8_readWeeks_77 : decode cX8_readWeeks 77 = .ok (.invokestatic 51, 3) := by decide +kernel
theorem dX8_readWeeks_80 : decode cX8_readWeeks 80 = .ok (.ifCond .eq 7, 3) := by decide +kernel
theorem dX8_readWeeks_83 : decode cX8_readWeeks 83 = .ok (.iconst 1, 1) := by decide +kernel
theorem dX8_readWeeks_84 : decode cX8_readWeeks 84 = .ok (.goto 4, 3) := by decide +kernel
theorem dX8_readWeeks_87 : decode cX8_readWeeks 87 = .ok (.iconst 0, 1) := by decide +kernel
theorem dX8_readWeeks_88 : decode cX8_readWeeks 88 = .ok (.istore 6, 2) := by decide +kernel
theorem dX8_readWeeks_90 : decode cX8_readWeeks 90 = .ok (.iload 6, 2) := by decide +kernel
theorem dX8_readWeeks_92 : decode cX8_readWeeks 92 = .ok (.ifCond .eq 8, 3) := by decide +kernel
theorem dX8_readWeeks_95 : decode cX8_readWeeks 95 = .ok (.aload_n 1, 1) := by decide +kernel
theorem dX8_readWeeks_96 : decode cX8_readWeeks 96 = .ok (.invokevirtual 55, 3) := by decide +kernel
theorem dX8_readWeeks_99 : decode cX8_readWeeks 99 = .ok (.pop, 1) := by decide +kernel
theorem dX8_readWeeks_100 : decode cX8_readWeeks 100 = .ok (.iinc 5 1, 3) := by decide +kernel
theorem dX8_readWeeks_103 : decode cX8_readWeeks 103 = .ok (.goto (-79), 3) := by decide +kernel
theorem dX8_readWeeks_106 : decode cX8_readWeeks 106 = .ok (.aload_n 0, 1) := by decide +kernel
theorem dX8_readWeeks_107 : decode cX8_readWeeks 107 = .ok (.getfield 15, 3) := by decide +kernel
theorem dX8_readWeeks_110 : decode cX8_readWeeks 110 = .ok (.ifCond .le 9, 3) := by decide +kernel
theorem dX8_readWeeks_113 : decode cX8_readWeeks 113 = .ok (.aload_n 1, 1) := by decide +kernel
theorem dX8_readWeeks_114 : decode cX8_readWeeks 114 = .ok (.iconst 2, 1) := by decide +kernel
theorem dX8_readWeeks_115 : decode cX8_readWeeks 115 = .ok (.invokevirtual 59, 3) := by decide +kernel
theorem dX8_readWeeks_118 : decode cX8_readWeeks 118 = .ok (.pop, 1) := by decide +kernel
theorem dX8_readWeeks_119 : decode cX8_readWeeks 119 = .ok (.return_, 1) := by decide +kernel
theorem dX8_closes_0 : decode cX8_closes 0 = .ok (.aload_n 0, 1) := by decide +kernel
theorem dX8_closes_1 : decode cX8_closes 1 = .ok (.getfield 15, 3) := by decide +kernel
theorem dX8_closes_4 : decode cX8_closes 4 = .ok (.ifCond .gt 9, 3) := by decide +kernel
theorem dX8_closes_7 : decode cX8_closes 7 = .ok (.aload_n 1, 1) := by decide +kernel
theorem dX8_closes_8 : decode cX8_closes 8 = .ok (.iconst 2, 1) := by decide +kernel
theorem dX8_closes_9 : decode cX8_closes 9 = .ok (.invokevirtual 59, 3) := by decide +kernel
theorem dX8_closes_12 : decode cX8_closes 12 = .ok (.ireturn, 1) := by decide +kernel
theorem dX8_closes_13 : decode cX8_closes 13 = .ok (.aload_n 0, 1) := by decide +kernel
theorem dX8_closes_14 : decode cX8_closes 14 = .ok (.dup, 1) := by decide +kernel
theorem dX8_closes_15 : decode cX8_closes 15 = .ok (.getfield 15, 3) := by decide +kernel
theorem dX8_closes_18 : decode cX8_closes 18 = .ok (.iconst 1, 1) := by decide +kernel
theorem dX8_closes_19 : decode cX8_closes 19 = .ok (.isub, 1) := by decide +kernel
theorem dX8_closes_20 : decode cX8_closes 20 = .ok (.putfield 15, 3) := by decide +kernel
theorem dX8_closes_23 : decode cX8_closes 23 = .ok (.aload_n 0, 1) := by decide +kernel
theorem dX8_closes_24 : decode cX8_closes 24 = .ok (.getfield 9, 3) := by decide +kernel
theorem dX8_closes_27 : decode cX8_closes 27 = .ok (.aload_n 0, 1) := by decide +kernel
theorem dX8_closes_28 : decode cX8_closes 28 = .ok (.getfield 15, 3) := by decide +kernel
theorem dX8_closes_31 : decode cX8_closes 31 = .ok (.iaload, 1) := by decide +kernel
theorem dX8_closes_32 : decode cX8_closes 32 = .ok (.istore_n 3, 1) := by decide +kernel
theorem dX8_closes_33 : decode cX8_closes 33 = .ok (.aload_n 2, 1) := by decide +kernel
theorem dX8_closes_34 : decode cX8_closes 34 = .ok (.bipush 28, 2) := by decide +kernel
theorem dX8_closes_36 : decode cX8_closes 36 = .ok (.invokevirtual 63, 3) := by decide +kernel
theorem dX8_closes_39 : decode cX8_closes 39 = .ok (.istore 4, 2) := by decide +kernel
theorem dX8_closes_41 : decode cX8_closes 41 = .ok (.aload_n 2, 1) := by decide +kernel
theorem dX8_closes_42 : decode cX8_closes 42 = .ok (.getfield 67, 3) := by decide +kernel
theorem dX8_closes_45 : decode cX8_closes 45 = .ok (.iload 4, 2) := by decide +kernel
theorem dX8_closes_47 : decode cX8_closes 47 = .ok (.iload_n 3, 1) := by decide +kernel
theorem dX8_closes_48 : decode cX8_closes 48 = .ok (.iastore, 1) := by decide +kernel
theorem dX8_closes_49 : decode cX8_closes 49 = .ok (.aload_n 2, 1) := by decide +kernel
theorem dX8_closes_50 : decode cX8_closes 50 = .ok (.getfield 67, 3) := by decide +kernel
theorem dX8_closes_53 : decode cX8_closes 53 = .ok (.iload_n 3, 1) := by decide +kernel
theorem dX8_closes_54 : decode cX8_closes 54 = .ok (.iload 4, 2) := by decide +kernel
theorem dX8_closes_56 : decode cX8_closes 56 = .ok (.iastore, 1) := by decide +kernel
theorem dX8_closes_57 : decode cX8_closes 57 = .ok (.aload_n 1, 1) := by decide +kernel
theorem dX8_closes_58 : decode cX8_closes 58 = .ok (.invokevirtual 70, 3) := by decide +kernel
theorem dX8_closes_61 : decode cX8_closes 61 = .ok (.iconst 1, 1) := by decide +kernel
theorem dX8_closes_62 : decode cX8_closes 62 = .ok (.ireturn, 1) := by decide +kernel
theorem dX8_begins_0 : decode cX8_begins 0 = .ok (.aload_n 1, 1) := by decide +kernel
theorem dX8_begins_1 : decode cX8_begins 1 = .ok (.invokevirtual 40, 3) := by decide +kernel
theorem dX8_begins_4 : decode cX8_begins 4 = .ok (.istore_n 3, 1) := by decide +kernel
theorem dX8_begins_5 : decode cX8_begins 5 = .ok (.iload_n 3, 1) := by decide +kernel
theorem dX8_begins_6 : decode cX8_begins 6 = .ok (.bipush 25, 2) := by decide +kernel
theorem dX8_begins_8 : decode cX8_begins 8 = .ok (.if_icmp .eq 9, 3) := by decide +kernel
theorem dX8_begins_11 : decode cX8_begins 11 = .ok (.iload_n 3, 1) := by decide +kernel
theorem dX8_begins_12 : decode cX8_begins 12 = .ok (.bipush 27, 2) := by decide +kernel
theorem dX8_begins_14 : decode cX8_begins 14 = .ok (.if_icmp .ne 7, 3) := by decide +kernel
theorem dX8_begins_17 : decode cX8_begins 17 = .ok (.iconst 1, 1) := by decide +kernel
theorem dX8_begins_18 : decode cX8_begins 18 = .ok (.goto 4, 3) := by decide +kernel
theorem dX8_begins_21 : decode cX8_begins 21 = .ok (.iconst 0, 1) := by decide +kernel
theorem dX8_begins_22 : decode cX8_begins 22 = .ok (.istore 4, 2) := by decide +kernel
theorem dX8_begins_24 : decode cX8_begins 24 = .ok (.iload 4, 2) := by decide +kernel
theorem dX8_begins_26 : decode cX8_begins 26 = .ok (.ifCond .ne 27, 3) := by decide +kernel
theorem dX8_begins_29 : decode cX8_begins 29 = .ok (.iload_n 3, 1) := by decide +kernel
theorem dX8_begins_30 : decode cX8_begins 30 = .ok (.bipush 29, 2) := by decide +kernel
theorem dX8_begins_32 : decode cX8_begins 32 = .ok (.if_icmp .eq 21, 3) := by decide +kernel
theorem dX8_begins_35 : decode cX8_begins 35 = .ok (.iload_n 3, 1) := by decide +kernel
theorem dX8_begins_36 : decode cX8_begins 36 = .ok (.bipush 18, 2) := by decide +kernel
theorem dX8_begins_38 : decode cX8_begins 38 = .ok (.if_icmp .lt 9, 3) := by decide +kernel
theorem dX8_begins_41 : decode cX8_begins 41 = .ok (.iload_n 3, 1) := by decide +kernel
theorem dX8_begins_42 : decode cX8_begins 42 = .ok (.bipush 24, 2) := by decide +kernel
theorem dX8_begins_44 : decode cX8_begins 44 = .ok (.if_icmp .le 9, 3) := by decide +kernel
theorem dX8_begins_47 : decode cX8_begins 47 = .ok (.aload_n 1, 1) := by decide +kernel
theorem dX8_begins_48 : decode cX8_begins 48 = .ok (.iconst 2, 1) := by decide +kernel
theorem dX8_begins_49 : decode cX8_begins 49 = .ok (.invokevirtual 59, 3) := by decide +kernel
theorem dX8_begins_52 : decode cX8_begins 52 = .ok (.ireturn, 1) := by decide +kernel
theorem dX8_begins_53 : decode cX8_begins 53 = .ok (.aload_n 2, 1) := by decide +kernel
theorem dX8_begins_54 : decode cX8_begins 54 = .ok (.getfield 73, 3) := by decide +kernel
theorem dX8_begins_57 : decode cX8_begins 57 = .ok (.bipush 30, 2) := by decide +kernel
theorem dX8_begins_59 : decode cX8_begins 59 = .ok (.if_icmp .lt 10, 3) := by decide +kernel
theorem dX8_begins_62 : decode cX8_begins 62 = .ok (.aload_n 1, 1) := by decide +kernel
theorem dX8_begins_63 : decode cX8_begins 63 = .ok (.bipush 6, 2) := by decide +kernel
theorem dX8_begins_65 : decode cX8_begins 65 = .ok (.invokevirtual 59, 3) := by decide +kernel
theorem dX8_begins_68 : decode cX8_begins 68 = .ok (.ireturn, 1) := by decide +kernel
theorem dX8_begins_69 : decode cX8_begins 69 = .ok (.iload 4, 2) := by decide +kernel
theorem dX8_begins_71 : decode cX8_begins 71 = .ok (.ifCond .eq 18, 3) := by decide +kernel
theorem dX8_begins_74 : decode cX8_begins 74 = .ok (.aload_n 0, 1) := by decide +kernel
theorem dX8_begins_75 : decode cX8_begins 75 = .ok (.getfield 15, 3) := by decide +kernel
theorem dX8_begins_78 : decode cX8_begins 78 = .ok (.iconst 3, 1) := by decide +kernel
theorem dX8_begins_79 : decode cX8_begins 79 = .ok (.if_icmp .lt 10, 3) := by decide +kernel
theorem dX8_begins_82 : decode cX8_begins 82 = .ok (.aload_n 1, 1) := by decide +kernel
theorem dX8_begins_83 : decode cX8_begins 83 = .ok (.bipush 7, 2) := by decide +kernel
theorem dX8_begins_85 : decode cX8_begins 85 = .ok (.invokevirtual 59, 3) := by decide +kernel
theorem dX8_begins_88 : decode cX8_begins 88 = .ok (.ireturn, 1) := by decide +kernel
theorem dX8_begins_89 : decode cX8_begins 89 = .ok (.aload_n 2, 1) := by decide +kernel
theorem dX8_begins_90 : decode cX8_begins 90 = .ok (.iload_n 3, 1) := by decide +kernel
theorem dX8_begins_91 : decode cX8_begins 91 = .ok (.invokevirtual 63, 3) := by decide +kernel
theorem dX8_begins_94 : decode cX8_begins 94 = .ok (.istore 5, 2) := by decide +kernel
theorem dX8_begins_96 : decode cX8_begins 96 = .ok (.aload_n 2, 1) := by decide +kernel
theorem dX8_begins_97 : decode cX8_begins 97 = .ok (.dup, 1) := by decide +kernel
theorem dX8_begins_98 : decode cX8_begins 98 = .ok (.getfield 73, 3) := by decide +kernel
theorem dX8_begins_101 : decode cX8_begins 101 = .ok (.iconst 1, 1) := by decide +kernel
theorem dX8_begins_102 : decode cX8_begins 102 = .ok (.iadd, 1) := by decide +kernel
theorem dX8_begins_103 : decode cX8_begins 103 = .ok (.putfield 73, 3) := by decide +kernel
theorem dX8_begins_106 : decode cX8_begins 106 = .ok (.iload 4, 2) := by decide +kernel
theorem dX8_begins_108 : decode cX8_begins 108 = .ok (.ifCond .eq 24, 3) := by decide +kernel
theorem dX8_begins_111 : decode cX8_begins 111 = .ok (.aload_n 0, 1) := by decide +kernel
theorem dX8_begins_112 : decode cX8_begins 112 = .ok (.getfield 9, 3) := by decide +kernel
theorem dX8_begins_115 : decode cX8_begins 115 = .ok (.aload_n 0, 1) := by decide +kernel
theorem dX8_begins_116 : decode cX8_begins 116 = .ok (.getfield 15, 3) := by decide +kernel
theorem dX8_begins_119 : decode cX8_begins 119 = .ok (.iload 5, 2) := by decide +kernel
theorem dX8_begins_121 : decode cX8_begins 121 = .ok (.iastore, 1) := by decide +kernel
theorem dX8_begins_122 : decode cX8_begins 122 = .ok (.aload_n 0, 1) := by decide +kernel
theorem dX8_begins_123 : decode cX8_begins 123 = .ok (.dup, 1) := by decide +kernel
theorem dX8_begins_124 : decode cX8_begins 124 = .ok (.getfield 15, 3) := by decide +kernel
theorem dX8_begins_127 : decode cX8_begins 127 = .ok (.iconst 1, 1) := by decide +kernel
theorem dX8_begins_128 : decode cX8_begins 128 = .ok (.iadd, 1) := by decide +kernel
theorem dX8_begins_129 : decode cX8_begins 129 = .ok (.putfield 15, 3) := by decide +kernel
theorem dX8_begins_132 : decode cX8_begins 132 = .ok (.aload_n 1, 1) := by decide +kernel
theorem dX8_begins_133 : decode cX8_begins 133 = .ok (.invokevirtual 70, 3) := by decide +kernel
theorem dX8_begins_136 : decode cX8_begins 136 = .ok (.iconst 1, 1) := by decide +kernel
theorem dX8_begins_137 : decode cX8_begins 137 = .ok (.ireturn, 1) := by decide +kernel
theorem dX8_readRest_0 : decode cX8_readRest 0 = .ok (.aload_n 2, 1) := by decide +kernel
theorem dX8_readRest_1 : decode cX8_readRest 1 = .ok (.getfield 76, 3) := by decide +kernel
theorem dX8_readRest_4 : decode cX8_readRest 4 = .ok (.iconst 1, 1) := by decide +kernel
theorem dX8_readRest_5 : decode cX8_readRest 5 = .ok (.isub, 1) := by decide +kernel
theorem dX8_readRest_6 : decode cX8_readRest 6 = .ok (.istore_n 3, 1) := by decide +kernel
theorem dX8_readRest_7 : decode cX8_readRest 7 = .ok (.iconst 1, 1) := by decide +kernel
theorem dX8_readRest_8 : decode cX8_readRest 8 = .ok (.istore 4, 2) := by decide +kernel
theorem dX8_readRest_10 : decode cX8_readRest 10 = .ok (.aload_n 2, 1) := by decide +kernel
theorem dX8_readRest_11 : decode cX8_readRest 11 = .ok (.getfield 79, 3) := by decide +kernel
theorem dX8_readRest_14 : decode cX8_readRest 14 = .ok (.iload_n 3, 1) := by decide +kernel
theorem dX8_readRest_15 : decode cX8_readRest 15 = .ok (.iaload, 1) := by decide +kernel
theorem dX8_readRest_16 : decode cX8_readRest 16 = .ok (.tableswitch 110 18 27 #[56, 67, 110, 91, 91, 91, 110, 102, 110, 79], 56) := by decide +kernel
theorem dX8_readRest_72 : decode cX8_readRest 72 = .ok (.aload_n 0, 1) := by decide +kernel
theorem dX8_readRest_73 : decode cX8_readRest 73 = .ok (.aload_n 1, 1) := by decide +kernel
theorem dX8_readRest_74 : decode cX8_readRest 74 = .ok (.iconst 1, 1) := by decide +kernel
theorem dX8_readRest_75 : decode cX8_readRest 75 = .ok (.invokevirtual 82, 3) := by decide +kernel
theorem dX8_readRest_78 : decode cX8_readRest 78 = .ok (.istore 4, 2) := by decide +kernel
theorem dX8_readRest_80 : decode cX8_readRest 80 = .ok (.goto 46, 3) := by decide +kernel
theorem dX8_readRest_83 : decode cX8_readRest 83 = .ok (.aload_n 0, 1) := by decide +kernel
theorem dX8_readRest_84 : decode cX8_readRest 84 = .ok (.iconst 1, 1) := by decide +kernel
theorem dX8_readRest_85 : decode cX8_readRest 85 = .ok (.bipush 99, 2) := by decide +kernel
theorem dX8_readRest_87 : decode cX8_readRest 87 = .ok (.invokevirtual 86, 3) := by decide +kernel
theorem dX8_readRest_90 : decode cX8_readRest 90 = .ok (.istore 4, 2) := by decide +kernel
theorem dX8_readRest_92 : decode cX8_readRest 92 = .ok (.goto 34, 3) := by decide +kernel
theorem dX8_readRest_95 : decode cX8_readRest 95 = .ok (.aload_n 0, 1) := by decide +kernel
theorem dX8_readRest_96 : decode cX8_readRest 96 = .ok (.iconst 1, 1) := by decide +kernel
theorem dX8_readRest_97 : decode cX8_readRest 97 = .ok (.bipush 99, 2) := by decide +kernel
theorem dX8_readRest_99 : decode cX8_readRest 99 = .ok (.invokevirtual 86, 3) := by decide +kernel
theorem dX8_readRest_102 : decode cX8_readRest 102 = .ok (.istore 4, 2) := by decide +kernel
theorem dX8_readRest_104 : decode cX8_readRest 104 = .ok (.goto 22, 3) := by decide +kernel
theorem dX8_readRest_107 : decode cX8_readRest 107 = .ok (.aload_n 0, 1) := by decide +kernel
theorem dX8_readRest_108 : decode cX8_readRest 108 = .ok (.aload_n 1, 1) := by decide +kernel
theorem dX8_readRest_109 : decode cX8_readRest 109 = .ok (.iconst 0, 1) := by decide +kernel
theorem dX8_readRest_110 : decode cX8_readRest 110 = .ok (.invokevirtual 82, 3) := by decide +kernel
theorem dX8_readRest_113 : decode cX8_readRest 113 = .ok (.istore 4, 2) := by decide +kernel
theorem dX8_readRest_115 : decode cX8_readRest 115 = .ok (.goto 11, 3) := by decide +kernel
theorem dX8_readRest_118 : decode cX8_readRest 118 = .ok (.aload_n 0, 1) := by decide +kernel
theorem dX8_readRest_119 : decode cX8_readRest 119 = .ok (.aload_n 1, 1) := by decide +kernel
theorem dX8_readRest_120 : decode cX8_readRest 120 = .ok (.aload_n 2, 1) := by decide +kernel
theorem dX8_readRest_121 : decode cX8_readRest 121 = .ok (.iload_n 3, 1) := by decide +kernel
theorem dX8_readRest_122 : decode cX8_readRest 122 = .ok (.invokestatic 90, 3) := by decide +kernel
theorem dX8_readRest_125 : decode cX8_readRest 125 = .ok (.ireturn, 1) := by decide +kernel
theorem dX8_readRest_126 : decode cX8_readRest 126 = .ok (.aload_n 2, 1) := by decide +kernel
theorem dX8_readRest_127 : decode cX8_readRest 127 = .ok (.getfield 94, 3) := by decide +kernel
theorem dX8_readRest_130 : decode cX8_readRest 130 = .ok (.iload_n 3, 1) := by decide +kernel
theorem dX8_readRest_131 : decode cX8_readRest 131 = .ok (.aload_n 0, 1) := by decide +kernel
theorem dX8_readRest_132 : decode cX8_readRest 132 = .ok (.getfield 97, 3) := by decide +kernel
theorem dX8_readRest_135 : decode cX8_readRest 135 = .ok (.iastore, 1) := by decide +kernel
theorem dX8_readRest_136 : decode cX8_readRest 136 = .ok (.iload 4, 2) := by decide +kernel
theorem dX8_readRest_138 : decode cX8_readRest 138 = .ok (.ifCond .eq 33, 3) := by decide +kernel
theorem dX8_readRest_141 : decode cX8_readRest 141 = .ok (.aload_n 2, 1) := by decide +kernel
theorem dX8_readRest_142 : decode cX8_readRest 142 = .ok (.getfield 79, 3) := by decide +kernel
theorem dX8_readRest_145 : decode cX8_readRest 145 = .ok (.iload_n 3, 1) := by decide +kernel
theorem dX8_readRest_146 : decode cX8_readRest 146 = .ok (.iaload, 1) := by decide +kernel
theorem dX8_readRest_147 : decode cX8_readRest 147 = .ok (.bipush 23, 2) := by decide +kernel
theorem dX8_readRest_149 : decode cX8_readRest 149 = .ok (.if_icmp .ne 22, 3) := by decide +kernel
theorem dX8_readRest_152 : decode cX8_readRest 152 = .ok (.aload_n 2, 1) := by decide +kernel
theorem dX8_readRest_153 : decode cX8_readRest 153 = .ok (.getfield 100, 3) := by decide +kernel
theorem dX8_readRest_156 : decode cX8_readRest 156 = .ok (.iload_n 3, 1) := by decide +kernel
theorem dX8_readRest_157 : decode cX8_readRest 157 = .ok (.aload_n 0, 1) := by decide +kernel
theorem dX8_readRest_158 : decode cX8_readRest 158 = .ok (.iconst 2, 1) := by decide +kernel
theorem dX8_readRest_159 : decode cX8_readRest 159 = .ok (.invokevirtual 103, 3) := by decide +kernel
theorem dX8_readRest_162 : decode cX8_readRest 162 = .ok (.ifCond .eq 7, 3) := by decide +kernel
theorem dX8_readRest_165 : decode cX8_readRest 165 = .ok (.iconst (-1), 1) := by decide +kernel
theorem dX8_readRest_166 : decode cX8_readRest 166 = .ok (.goto 4, 3) := by decide +kernel
theorem dX8_readRest_169 : decode cX8_readRest 169 = .ok (.iconst 1, 1) := by decide +kernel
theorem dX8_readRest_170 : decode cX8_readRest 170 = .ok (.iastore, 1) := by decide +kernel
theorem dX8_readRest_171 : decode cX8_readRest 171 = .ok (.iload 4, 2) := by decide +kernel
theorem dX8_readRest_173 : decode cX8_readRest 173 = .ok (.ireturn, 1) := by decide +kernel
theorem dX8_readTest_0 : decode cX8_readTest 0 = .ok (.aload_n 0, 1) := by decide +kernel
theorem dX8_readTest_1 : decode cX8_readTest 1 = .ok (.invokevirtual 40, 3) := by decide +kernel
theorem dX8_readTest_4 : decode cX8_readTest 4 = .ok (.istore 4, 2) := by decide +kernel
theorem dX8_readTest_6 : decode cX8_readTest 6 = .ok (.iload 4, 2) := by decide +kernel
theorem dX8_readTest_8 : decode cX8_readTest 8 = .ok (.bipush 26, 2) := by decide +kernel
theorem dX8_readTest_10 : decode cX8_readTest 10 = .ok (.if_icmp .eq 23, 3) := by decide +kernel
theorem dX8_readTest_13 : decode cX8_readTest 13 = .ok (.iload 4, 2) := by decide +kernel
theorem dX8_readTest_15 : decode cX8_readTest 15 = .ok (.bipush 7, 2) := by decide +kernel
theorem dX8_readTest_17 : decode cX8_readTest 17 = .ok (.if_icmp .eq 16, 3) := by decide +kernel
theorem dX8_readTest_20 : decode cX8_readTest 20 = .ok (.iload 4, 2) := by decide +kernel
theorem dX8_readTest_22 : decode cX8_readTest 22 = .ok (.bipush 11, 2) := by decide +kernel
theorem dX8_readTest_24 : decode cX8_readTest 24 = .ok (.if_icmp .eq 9, 3) := by decide +kernel
theorem dX8_readTest_27 : decode cX8_readTest 27 = .ok (.aload_n 0, 1) := by decide +kernel
theorem dX8_readTest_28 : decode cX8_readTest 28 = .ok (.iconst 2, 1) := by decide +kernel
theorem dX8_readTest_29 : decode cX8_readTest 29 = .ok (.invokevirtual 59, 3) := by decide +kernel
theorem dX8_readTest_32 : decode cX8_readTest 32 = .ok (.ireturn, 1) := by decide +kernel
theorem dX8_readTest_33 : decode cX8_readTest 33 = .ok (.aload_n 2, 1) := by decide +kernel
theorem dX8_readTest_34 : decode cX8_readTest 34 = .ok (.getfield 94, 3) := by decide +kernel
theorem dX8_readTest_37 : decode cX8_readTest 37 = .ok (.iload_n 3, 1) := by decide +kernel
theorem dX8_readTest_38 : decode cX8_readTest 38 = .ok (.iload 4, 2) := by decide +kernel
theorem dX8_readTest_40 : decode cX8_readTest 40 = .ok (.iastore, 1) := by decide +kernel
theorem dX8_readTest_41 : decode cX8_readTest 41 = .ok (.aload_n 0, 1) := by decide +kernel
theorem dX8_readTest_42 : decode cX8_readTest 42 = .ok (.invokevirtual 70, 3) := by decide +kernel
theorem dX8_readTest_45 : decode cX8_readTest 45 = .ok (.iload 4, 2) := by decide +kernel
theorem dX8_readTest_47 : decode cX8_readTest 47 = .ok (.bipush 26, 2) := by decide +kernel
theorem dX8_readTest_49 : decode cX8_readTest 49 = .ok (.if_icmp .eq 35, 3) := by decide +kernel
theorem dX8_readTest_52 : decode cX8_readTest 52 = .ok (.aload_n 0, 1) := by decide +kernel
theorem dX8_readTest_53 : decode cX8_readTest 53 = .ok (.aload_n 1, 1) := by decide +kernel
theorem dX8_readTest_54 : decode cX8_readTest 54 = .ok (.iload 4, 2) := by decide +kernel
theorem dX8_readTest_56 : decode cX8_readTest 56 = .ok (.bipush 7, 2) := by decide +kernel
theorem dX8_readTest_58 : decode cX8_readTest 58 = .ok (.if_icmp .ne 7, 3) := by decide +kernel
theorem dX8_readTest_61 : decode cX8_readTest 61 = .ok (.iconst 2, 1) := by decide +kernel
theorem dX8_readTest_62 : decode cX8_readTest 62 = .ok (.goto 4, 3) := by decide +kernel
theorem dX8_readTest_65 : decode cX8_readTest 65 = .ok (.iconst 3, 1) := by decide +kernel
theorem dX8_readTest_66 : decode cX8_readTest 66 = .ok (.invokevirtual 82, 3) := by decide +kernel
theorem dX8_readTest_69 : decode cX8_readTest 69 = .ok (.ifCond .ne 5, 3) := by decide +kernel
theorem dX8_readTest_72 : decode cX8_readTest 72 = .ok (.iconst 0, 1) := by decide +kernel
theorem dX8_readTest_73 : decode cX8_readTest 73 = .ok (.ireturn, 1) := by decide +kernel
theorem dX8_readTest_74 : decode cX8_readTest 74 = .ok (.aload_n 2, 1) := by decide +kernel
theorem dX8_readTest_75 : decode cX8_readTest 75 = .ok (.getfield 106, 3) := by decide +kernel
theorem dX8_readTest_78 : decode cX8_readTest 78 = .ok (.iload_n 3, 1) := by decide +kernel
theorem dX8_readTest_79 : decode cX8_readTest 79 = .ok (.aload_n 0, 1) := by decide +kernel
theorem dX8_readTest_80 : decode cX8_readTest 80 = .ok (.getfield 97, 3) := by decide +kernel
theorem dX8_readTest_83 : decode cX8_readTest 83 = .ok (.iastore, 1) := by decide +kernel
theorem dX8_readTest_84 : decode cX8_readTest 84 = .ok (.iload 4, 2) := by decide +kernel
theorem dX8_readTest_86 : decode cX8_readTest 86 = .ok (.bipush 7, 2) := by decide +kernel
theorem dX8_readTest_88 : decode cX8_readTest 88 = .ok (.if_icmp .ne 5, 3) := by decide +kernel
theorem dX8_readTest_91 : decode cX8_readTest 91 = .ok (.iconst 1, 1) := by decide +kernel
theorem dX8_readTest_92 : decode cX8_readTest 92 = .ok (.ireturn, 1) := by decide +kernel
theorem dX8_readTest_93 : decode cX8_readTest 93 = .ok (.aload_n 0, 1) := by decide +kernel
theorem dX8_readTest_94 : decode cX8_readTest 94 = .ok (.invokevirtual 109, 3) := by decide +kernel
theorem dX8_readTest_97 : decode cX8_readTest 97 = .ok (.ifCond .ne 5, 3) := by decide +kernel
theorem dX8_readTest_100 : decode cX8_readTest 100 = .ok (.iconst 0, 1) := by decide +kernel
theorem dX8_readTest_101 : decode cX8_readTest 101 = .ok (.ireturn, 1) := by decide +kernel
theorem dX8_readTest_102 : decode cX8_readTest 102 = .ok (.aload_n 2, 1) := by decide +kernel
theorem dX8_readTest_103 : decode cX8_readTest 103 = .ok (.getfield 100, 3) := by decide +kernel
theorem dX8_readTest_106 : decode cX8_readTest 106 = .ok (.iload_n 3, 1) := by decide +kernel
theorem dX8_readTest_107 : decode cX8_readTest 107 = .ok (.aload_n 0, 1) := by decide +kernel
theorem dX8_readTest_108 : decode cX8_readTest 108 = .ok (.getfield 97, 3) := by decide +kernel
theorem dX8_readTest_111 : decode cX8_readTest 111 = .ok (.iastore, 1) := by decide +kernel
theorem dX8_readTest_112 : decode cX8_readTest 112 = .ok (.iload 4, 2) := by decide +kernel
theorem dX8_readTest_114 : decode cX8_readTest 114 = .ok (.bipush 26, 2) := by decide +kernel
theorem dX8_readTest_116 : decode cX8_readTest 116 = .ok (.if_icmp .ne 13, 3) := by decide +kernel
theorem dX8_readTest_119 : decode cX8_readTest 119 = .ok (.aload_n 0, 1) := by decide +kernel
theorem dX8_readTest_120 : decode cX8_readTest 120 = .ok (.iconst 0, 1) := by decide +kernel
theorem dX8_readTest_121 : decode cX8_readTest 121 = .ok (.bipush 10, 2) := by decide +kernel
theorem dX8_readTest_123 : decode cX8_readTest 123 = .ok (.invokevirtual 86, 3) := by decide +kernel
theorem dX8_readTest_126 : decode cX8_readTest 126 = .ok (.goto 10, 3) := by decide +kernel
theorem dX8_readTest_129 : decode cX8_readTest 129 = .ok (.aload_n 0, 1) := by decide +kernel
theorem dX8_readTest_130 : decode cX8_readTest 130 = .ok (.sipush 9999, 3) := by decide +kernel
theorem dX8_readTest_133 : decode cX8_readTest 133 = .ok (.invokevirtual 112, 3) := by decide +kernel
theorem dX8_readTest_136 : decode cX8_readTest 136 = .ok (.istore 5, 2) := by decide +kernel
theorem dX8_readTest_138 : decode cX8_readTest 138 = .ok (.aload_n 2, 1) := by decide +kernel
theorem dX8_readTest_139 : decode cX8_readTest 139 = .ok (.getfield 115, 3) := by decide +kernel
theorem dX8_readTest_142 : decode cX8_readTest 142 = .ok (.iload_n 3, 1) := by decide +kernel
theorem dX8_readTest_143 : decode cX8_readTest 143 = .ok (.aload_n 0, 1) := by decide +kernel
theorem dX8_readTest_144 : decode cX8_readTest 144 = .ok (.getfield 97, 3) := by decide +kernel
theorem dX8_readTest_147 : decode cX8_readTest 147 = .ok (.iastore, 1) := by decide +kernel
theorem dX8_readTest_148 : decode cX8_readTest 148 = .ok (.iload 5, 2) := by decide +kernel
theorem dX8_readTest_150 : decode cX8_readTest 150 = .ok (.ireturn, 1) := by decide +kernel
theorem dX9_init_0 : decode cX9_init 0 = .ok (.aload_n 0, 1) := by decide +kernel
theorem dX9_init_1 : decode cX9_init 1 = .ok (.invokespecial 1, 3) := by decide +kernel
theorem dX9_init_4 : decode cX9_init 4 = .ok (.aload_n 0, 1) := by decide +kernel
theorem dX9_init_5 : decode cX9_init 5 = .ok (.new 7, 3) := by decide +kernel
theorem dX9_init_8 : decode cX9_init 8 = .ok (.dup, 1) := by decide +kernel
theorem dX9_init_9 : decode cX9_init 9 = .ok (.invokespecial 9, 3) := by decide +kernel
theorem dX9_init_12 : decode cX9_init 12 = .ok (.putfield 10, 3) := by decide +kernel
theorem dX9_init_15 : decode cX9_init 15 = .ok (.aload_n 0, 1) := by decide +kernel
theorem dX9_init_16 : decode cX9_init 16 = .ok (.new 16, 3) := by decide +kernel
theorem dX9_init_19 : decode cX9_init 19 = .ok (.dup, 1) := by decide +kernel
theorem dX9_init_20 : decode cX9_init 20 = .ok (.invokespecial 18, 3) := by decide +kernel
theorem dX9_init_23 : decode cX9_init 23 = .ok (.putfield 19, 3) := by decide +kernel
theorem dX9_init_26 : decode cX9_init 26 = .ok (.aload_n 0, 1) := by decide +kernel
theorem dX9_init_27 : decode cX9_init 27 = .ok (.new 23, 3) := by decide +kernel
theorem dX9_init_30 : decode cX9_init 30 = .ok (.dup, 1) := by decide +kernel
theorem dX9_init_31 : decode cX9_init 31 = .ok (.invokespecial 25, 3) := by decide +kernel
theorem dX9_init_34 : decode cX9_init 34 = .ok (.putfield 26, 3) := by decide +kernel
theorem dX9_init_37 : decode cX9_init 37 = .ok (.return_, 1) := by decide +kernel
theorem dX9_copyFrom_0 : decode cX9_copyFrom 0 = .ok (.aload_n 0, 1) := by decide +kernel
theorem dX9_copyFrom_1 : decode cX9_copyFrom 1 = .ok (.getfield 10, 3) := by decide +kernel
theorem dX9_copyFrom_4 : decode cX9_copyFrom 4 = .ok (.aload_n 1, 1) := by decide +kernel
theorem dX9_copyFrom_5 : decode cX9_copyFrom 5 = .ok (.getfield 10, 3) := by decide +kernel
theorem dX9_copyFrom_8 : decode cX9_copyFrom 8 = .ok (.invokevirtual 30, 3) := by decide +kernel
theorem dX9_copyFrom_11 : decode cX9_copyFrom 11 = .ok (.aload_n 0, 1) := by decide +kernel
theorem dX9_copyFrom_12 : decode cX9_copyFrom 12 = .ok (.getfield 19, 3) := by decide +kernel
theorem dX9_copyFrom_15 : decode cX9_copyFrom 15 = .ok (.aload_n 1, 1) := by decide +kernel
theorem dX9_copyFrom_16 : decode cX9_copyFrom 16 = .ok (.getfield 19, 3) := by decide +kernel
theorem dX9_copyFrom_19 : decode cX9_copyFrom 19 = .ok (.invokevirtual 34, 3) := by decide +kernel
theorem dX9_copyFrom_22 : decode cX9_copyFrom 22 = .ok (.aload_n 0, 1) := by decide +kernel
theorem dX9_copyFrom_23 : decode cX9_copyFrom 23 = .ok (.getfield 26, 3) := by decide +kernel
theorem dX9_copyFrom_26 : decode cX9_copyFrom 26 = .ok (.aload_n 1, 1) := by decide +kernel
theorem dX9_copyFrom_27 : decode cX9_copyFrom 27 = .ok (.getfield 26, 3) := by decide +kernel
theorem dX9_copyFrom_30 : decode cX9_copyFrom 30 = .ok (.invokevirtual 37, 3) := by decide +kernel
theorem dX9_copyFrom_33 : decode cX9_copyFrom 33 = .ok (.return_, 1) := by decide +kernel
theorem dX10_init_0 : decode cX10_init 0 = .ok (.aload_n 0, 1) := by decide +kernel
theorem dX10_init_1 : decode cX10_init 1 = .ok (.invokespecial 1, 3) := by decide +kernel
theorem dX10_init_4 : decode cX10_init 4 = .ok (.aload_n 0, 1) := by decide +kernel
theorem dX10_init_5 : decode cX10_init 5 = .ok (.new 7, 3) := by decide +kernel
theorem dX10_init_8 : decode cX10_init 8 = .ok (.dup, 1) := by decide +kernel
theorem dX10_init_9 : decode cX10_init 9 = .ok (.invokespecial 9, 3) := by decide +kernel
theorem dX10_init_12 : decode cX10_init 12 = .ok (.putfield 10, 3) := by decide +kernel
theorem dX10_init_15 : decode cX10_init 15 = .ok (.aload_n 0, 1) := by decide +kernel
theorem dX10_init_16 : decode cX10_init 16 = .ok (.new 16, 3) := by decide +kernel
theorem dX10_init_19 : decode cX10_init 19 = .ok (.dup, 1) := by decide +kernel
theorem dX10_init_20 : decode cX10_init 20 = .ok (.invokespecial 18, 3) := by decide +kernel
theorem dX10_init_23 : decode cX10_init 23 = .ok (.putfield 19, 3) := by decide +kernel
theorem dX10_init_26 : decode cX10_init 26 = .ok (.aload_n 0, 1) := by decide +kernel
theorem dX10_init_27 : decode cX10_init 27 = .ok (.iconst 3, 1) := by decide +kernel
theorem dX10_init_28 : decode cX10_init 28 = .ok (.anewarray 16, 3) := by decide +kernel
theorem dX10_init_31 : decode cX10_init 31 = .ok (.putfield 23, 3) := by decide +kernel
theorem dX10_init_34 : decode cX10_init 34 = .ok (.aload_n 0, 1) := by decide +kernel
theorem dX10_init_35 : decode cX10_init 35 = .ok (.new 27, 3) := by decide +kernel
theorem dX10_init_38 : decode cX10_init 38 = .ok (.dup, 1) := by decide +kernel
theorem dX10_init_39 : decode cX10_init 39 = .ok (.invokespecial 29, 3) := by decide +kernel
theorem dX10_init_42 : decode cX10_init 42 = .ok (.putfield 30, 3) := by decide +kernel
theorem dX10_init_45 : decode cX10_init 45 = .ok (.aload_n 0, 1) := by decide +kernel
theorem dX10_init_46 : decode cX10_init 46 = .ok (.new 34, 3) := by decide +kernel
theorem dX10_init_49 : decode cX10_init 49 = .ok (.dup, 1) := by decide +kernel
theorem dX10_init_50 : decode cX10_init 50 = .ok (.invokespecial 36, 3) := by decide +kernel
theorem dX10_init_53 : decode cX10_init 53 = .ok (.putfield 37, 3) := by decide +kernel
theorem dX10_init_56 : decode cX10_init 56 = .ok (.aload_n 0, 1) := by decide +kernel
theorem dX10_init_57 : decode cX10_init 57 = .ok (.new 41, 3) := by decide +kernel
theorem dX10_init_60 : decode cX10_init 60 = .ok (.dup, 1) := by decide +kernel
theorem dX10_init_61 : decode cX10_init 61 = .ok (.invokespecial 43, 3) := by decide +kernel
theorem dX10_init_64 : decode cX10_init 64 = .ok (.putfield 44, 3) := by decide +kernel
theorem dX10_init_67 : decode cX10_init 67 = .ok (.aload_n 0, 1) := by decide +kernel
theorem dX10_init_68 : decode cX10_init 68 = .ok (.new 48, 3) := by decide +kernel
theorem dX10_init_71 : decode cX10_init 71 = .ok (.dup, 1) := by decide +kernel
theorem dX10_init_72 : decode cX10_init 72 = .ok (.invokespecial 50, 3) := by decide +kernel
theorem dX10_init_75 : decode cX10_init 75 = .ok (.putfield 51, 3) := by decide +kernel
theorem dX10_init_78 : decode cX10_init 78 = .ok (.aload_n 0, 1) := by decide +kernel
theorem dX10_init_79 : decode cX10_init 79 = .ok (.new 55, 3) := by decide +kernel
theorem dX10_init_82 : decode cX10_init 82 = .ok (.dup, 1) := by decide +kernel
theorem dX10_init_83 : decode cX10_init 83 = .ok (.invokespecial 57, 3) := by decide +kernel
theorem dX10_init_86 : decode cX10_init 86 = .ok (.putfield 58, 3) := by decide +kernel
theorem dX10_init_89 : decode cX10_init 89 = .ok (.aload_n 0, 1) := by decide +kernel
theorem dX10_init_90 : decode cX10_init 90 = .ok (.new 62, 3) := by decide +kernel
theorem dX10_init_93 : decode cX10_init 93 = .ok (.dup, 1) := by decide +kernel
theorem dX10_init_94 : decode cX10_init 94 = .ok (.invokespecial 64, 3) := by decide +kernel
theorem dX10_init_97 : decode cX10_init 97 = .ok (.putfield 65, 3) := by decide +kernel
theorem dX10_init_100 : decode cX10_init 100 = .ok (.aload_n 0, 1) := by decide +kernel
theorem dX10_init_101 : decode cX10_init 101 = .ok (.new 69, 3) := by decide +kernel
theorem dX10_init_104 : decode cX10_init 104 = .ok (.dup, 1) := by decide +kernel
theorem dX10_init_105 : decode cX10_init 105 = .ok (.invokespecial 71, 3) := by decide +kernel
theorem dX10_init_108 : decode cX10_init 108 = .ok (.putfield 72, 3) := by decide +kernel
theorem dX10_init_111 : decode cX10_init 111 = .ok (.aload_n 0, 1) := by decide +kernel
theorem dX10_init_112 : decode cX10_init 112 = .ok (.new 76, 3) := by decide +kernel
theorem dX10_init_115 : decode cX10_init 115 = .ok (.dup, 1) := by decide +kernel
theorem dX10_init_116 : decode cX10_init 116 = .ok (.invokespecial 78, 3) := by decide +kernel
theorem dX10_init_119 : decode cX10_init 119 = .ok (.putfield 79, 3) := by decide +kernel
theorem dX10_init_122 : decode cX10_init 122 = .ok (.aload_n 0, 1) := by decide +kernel
theorem dX10_init_123 : decode cX10_init 123 = .ok (.new 76, 3) := by decide +kernel
theorem dX10_init_126 : decode cX10_init 126 = .ok (.dup, 1) := by decide +kernel
theorem dX10_init_127 : decode cX10_init 127 = .ok (.invokespecial 78, 3) := by decide +kernel
theorem dX10_init_130 : decode cX10_init 130 = .ok (.putfield 83, 3) := by decide +kernel
theorem dX10_init_133 : decode cX10_init 133 = .ok (.aload_n 0, 1) := by decide +kernel
theorem dX10_init_134 : decode cX10_init 134 = .ok (.iconst 0, 1) := by decide +kernel
theorem dX10_init_135 : decode cX10_init 135 = .ok (.putfield 86, 3) := by decide +kernel
theorem dX10_init_138 : decode cX10_init 138 = .ok (.aload_n 0, 1) := by decide +kernel
theorem dX10_init_139 : decode cX10_init 139 = .ok (.iconst 0, 1) := by decide +kernel
theorem dX10_init_140 : decode cX10_init 140 = .ok (.putfield 90, 3) := by decide +kernel
theorem dX10_init_143 : decode cX10_init 143 = .ok (.aload_n 0, 1) := by decide +kernel
theorem dX10_init_144 : decode cX10_init 144 = .ok (.iconst 0, 1) := by decide +kernel
theorem dX10_init_145 : decode cX10_init 145 = .ok (.putfield 94, 3) := by decide +kernel
theorem dX10_init_148 : decode cX10_init 148 = .ok (.aload_n 0, 1) := by decide +kernel
theorem dX10_init_149 : decode cX10_init 149 = .ok (.iconst (-1), 1) := by decide +kernel
theorem dX10_init_150 : decode cX10_init 150 = .ok (.putfield 97, 3) := by decide +kernel
theorem dX10_init_153 : decode cX10_init 153 = .ok (.aload_n 0, 1) := by decide +kernel
theorem dX10_init_154 : decode cX10_init 154 = .ok (.iconst (-1), 1) := by decide +kernel
theorem dX10_init_155 : decode cX10_init 155 = .ok (.putfield 100, 3) := by decide +kernel
theorem dX10_init_158 : decode cX10_init 158 = .ok (.aload_n 0, 1) := by decide +kernel
theorem dX10_init_159 : decode cX10_init 159 = .ok (.lconst 0, 1) := by decide +kernel
theorem dX10_init_160 : decode cX10_init 160 = .ok (.putfield 103, 3) := by decide +kernel
theorem dX10_init_163 : decode cX10_init 163 = .ok (.aload_n 0, 1) := by decide +kernel
theorem dX10_init_164 : decode cX10_init 164 = .ok (.lconst 1, 1) := by decide +kernel
theorem dX10_init_165 : decode cX10_init 165 = .ok (.putfield 107, 3) := by decide +kernel
theorem dX10_init_168 : decode cX10_init 168 = .ok (.iconst 0, 1) := by decide +kernel
theorem dX10_init_169 : decode cX10_init 169 = .ok (.istore_n 1, 1) := by decide +kernel
theorem dX10_init_170 : decode cX10_init 170 = .ok (.iload_n 1, 1) := by decide +kernel
theorem dX10_init_171 : decode cX10_init 171 = .ok (.iconst 3, 1) := by decide +kernel
theorem dX10_init_172 : decode cX10_init 172 = .ok (.if_icmp .ge 22, 3) := by decide +kernel
theorem dX10_init_175 : decode cX10_init 175 = .ok (.aload_n 0, 1) := by decide +kernel
theorem dX10_init_176 : decode cX10_init 176 = .ok (.getfield 23, 3) := by decide +kernel
theorem dX10_init_179 : decode cX10_init 179 = .ok (.iload_n 1, 1) := by decide +kernel
theorem dX10_init_180 : decode cX10_init 180 = .ok (.new 16, 3) := by decide +kernel
theorem dX10_init_183 : decode cX10_init 183 = .ok (.dup, 1) := by decide +kernel
theorem dX10_init_184 : decode cX10_init 184 = .ok (.invokespecial 18, 3) := by decide +kernel
theorem dX10_init_187 : decode cX10_init 187 = .ok (.aastore, 1) := by decide +kernel
theorem dX10_init_188 : decode cX10_init 188 = .ok (.iinc 1 1, 3) := by decide +kernel
theorem dX10_init_191 : decode cX10_init 191 = .ok (.goto (-21), 3) := by decide +kernel
theorem dX10_init_194 : decode cX10_init 194 = .ok (.return_, 1) := by decide +kernel
theorem dX10_status_0 : decode cX10_status 0 = .ok (.aload_n 0, 1) := by decide +kernel
theorem dX10_status_1 : decode cX10_status 1 = .ok (.getfield 94, 3) := by decide +kernel
theorem dX10_status_4 : decode cX10_status 4 = .ok (.ireturn, 1) := by decide +kernel
theorem dX10_top_0 : decode cX10_top 0 = .ok (.aload_n 0, 1) := by decide +kernel
theorem dX10_top_1 : decode cX10_top 1 = .ok (.getfield 103, 3) := by decide +kernel
theorem dX10_top_4 : decode cX10_top 4 = .ok (.lreturn, 1) := by decide +kernel
theorem dX10_bottom_0 : decode cX10_bottom 0 = .ok (.aload_n 0, 1) := by decide +kernel
theorem dX10_bottom_1 : decode cX10_bottom 1 = .ok (.getfield 107, 3) := by decide +kernel
theorem dX10_bottom_4 : decode cX10_bottom 4 = .ok (.lreturn, 1) := by decide +kernel
theorem dX10_tray_0 : decode cX10_tray 0 = .ok (.iload_n 1, 1) := by decide +kernel
theorem dX10_tray_1 : decode cX10_tray 1 = .ok (.invokestatic 110, 3) := by decide +kernel
theorem dX10_tray_4 : decode cX10_tray 4 = .ok (.ifCond .eq 12, 3) := by decide +kernel
theorem dX10_tray_7 : decode cX10_tray 7 = .ok (.iload_n 2, 1) := by decide +kernel
theorem dX10_tray_8 : decode cX10_tray 8 = .ok (.ifCond .lt 8, 3) := by decide +kernel
theorem dX10_tray_11 : decode cX10_tray 11 = .ok (.iload_n 2, 1) := by decide +kernel
theorem dX10_tray_12 : decode cX10_tray 12 = .ok (.iconst 4, 1) := by decide +kernel
theorem dX10_tray_13 : decode cX10_tray 13 = .ok (.if_icmp .lt 9, 3) := by decide +kernel
theorem dX10_tray_16 : decode cX10_tray 16 = .ok (.aload_n 0, 1) := by decide +kernel
theorem dX10_tray_17 : decode cX10_tray 17 = .ok (.iconst 1, 1) := by decide +kernel
theorem dX10_tray_18 : decode cX10_tray 18 = .ok (.invokevirtual 114, 3) := by decide +kernel
theorem dX10_tray_21 : decode cX10_tray 21 = .ok (.ireturn, 1) := by decide +kernel
theorem dX10_tray_22 : decode cX10_tray 22 = .ok (.iload_n 3, 1) := by decide +kernel
theorem dX10_tray_23 : decode cX10_tray 23 = .ok (.bipush 60, 2) := by decide +kernel
theorem dX10_tray_25 : decode cX10_tray 25 = .ok (.if_icmp .le 9, 3) := by decide +kernel
theorem dX10_tray_28 : decode cX10_tray 28 = .ok (.aload_n 0, 1) := by decide +kernel
theorem dX10_tray_29 : decode cX10_tray 29 = .ok (.iconst 5, 1) := by decide +kernel
theorem dX10_tray_30 : decode cX10_tray 30 = .ok (.invokevirtual 114, 3) := by decide +kernel
theorem dX10_tray_33 : decode cX10_tray 33 = .ok (.ireturn, 1) := by decide +kernel
theorem dX10_tray_34 : decode cX10_tray 34 = .ok (.iload_n 3, 1) := by decide +kernel
theorem dX10_tray_35 : decode cX10_tray 35 = .ok (.ifCond .ge 10, 3) := by decide +kernel
theorem dX10_tray_38 : decode cX10_tray 38 = .ok (.aload_n 0, 1) := by decide +kernel
theorem dX10_tray_39 : decode cX10_tray 39 = .ok (.bipush 6, 2) := by decide +kernel
theorem dX10_tray_41 : decode cX10_tray 41 = .ok (.invokevirtual 114, 3) := by decide +kernel
theorem dX10_tray_44 : decode cX10_tray 44 = .ok (.ireturn, 1) := by decide +kernel
theorem dX10_tray_45 : decode cX10_tray 45 = .ok (.aload_n 0, 1) := by decide +kernel
theorem dX10_tray_46 : decode cX10_tray 46 = .ok (.getfield 10, 3) := by decide +kernel
theorem dX10_tray_49 : decode cX10_tray 49 = .ok (.iload_n 1, 1) := by decide +kernel
theorem dX10_tray_50 : decode cX10_tray 50 = .ok (.iload_n 2, 1) := by decide +kernel
theorem dX10_tray_51 : decode cX10_tray 51 = .ok (.iload_n 3, 1) := by decide +kernel
theorem dX10_tray_52 : decode cX10_tray 52 = .ok (.invokevirtual 117, 3) := by decide +kernel
theorem dX10_tray_55 : decode cX10_tray 55 = .ok (.aload_n 0, 1) := by decide +kernel
theorem dX10_tray_56 : decode cX10_tray 56 = .ok (.invokevirtual 121, 3) := by decide +kernel
theorem dX10_tray_59 : decode cX10_tray 59 = .ok (.ireturn, 1) := by decide +kernel
theorem dX10_write_0 : decode cX10_write 0 = .ok (.aload_n 0, 1) := by decide +kernel
theorem dX10_write_1 : decode cX10_write 1 = .ok (.iload_n 1, 1) := by decide +kernel
theorem dX10_write_2 : decode cX10_write 2 = .ok (.iload_n 2, 1) := by decide +kernel
theorem dX10_write_3 : decode cX10_write 3 = .ok (.invokevirtual 125, 3) := by decide +kernel
theorem dX10_write_6 : decode cX10_write 6 = .ok (.istore 5, 2) := by decide +kernel
theorem dX10_write_8 : decode cX10_write 8 = .ok (.iload 5, 2) := by decide +kernel
theorem dX10_write_10 : decode cX10_write 10 = .ok (.ifCond .eq 10, 3) := by decide +kernel
theorem dX10_write_13 : decode cX10_write 13 = .ok (.aload_n 0, 1) := by decide +kernel
theorem dX10_write_14 : decode cX10_write 14 = .ok (.iload 5, 2) := by decide +kernel
theorem dX10_write_16 : decode cX10_write 16 = .ok (.invokevirtual 114, 3) := by decide +kernel
theorem dX10_write_19 : decode cX10_write 19 = .ok (.ireturn, 1) := by decide +kernel
theorem dX10_write_20 : decode cX10_write 20 = .ok (.aload_n 0, 1) := by decide +kernel
theorem dX10_write_21 : decode cX10_write 21 = .ok (.getfield 10, 3) := by decide +kernel
theorem dX10_write_24 : decode cX10_write 24 = .ok (.iload_n 1, 1) := by decide +kernel
theorem dX10_write_25 : decode cX10_write 25 = .ok (.iload_n 2, 1) := by decide +kernel
theorem dX10_write_26 : decode cX10_write 26 = .ok (.lload_n 3, 1) := by decide +kernel
theorem dX10_write_27 : decode cX10_write 27 = .ok (.invokevirtual 129, 3) := by decide +kernel
theorem dX10_write_30 : decode cX10_write 30 = .ok (.aload_n 0, 1) := by decide +kernel
theorem dX10_write_31 : decode cX10_write 31 = .ok (.invokevirtual 121, 3) := by decide +kernel
theorem dX10_write_34 : decode cX10_write 34 = .ok (.ireturn, 1) := by decide +kernel
theorem dX10_read_0 : decode cX10_read 0 = .ok (.aload_n 0, 1) := by decide +kernel
theorem dX10_read_1 : decode cX10_read 1 = .ok (.iload_n 1, 1) := by decide +kernel
theorem dX10_read_2 : decode cX10_read 2 = .ok (.iload_n 2, 1) := by decide +kernel
theorem dX10_read_3 : decode cX10_read 3 = .ok (.invokevirtual 125, 3) := by decide +kernel
theorem dX10_read_6 : decode cX10_read 6 = .ok (.istore_n 3, 1) := by decide +kernel
theorem dX10_read_7 : decode cX10_read 7 = .ok (.iload_n 3, 1) := by decide +kernel
theorem dX10_read_8 : decode cX10_read 8 = .ok (.ifCond .eq 10, 3) := by decide +kernel
theorem dX10_read_11 : decode cX10_read 11 = .ok (.aload_n 0, 1) := by decide +kernel
theorem dX10_read_12 : decode cX10_read 12 = .ok (.iload_n 3, 1) := by decide +kernel
theorem dX10_read_13 : decode cX10_read 13 = .ok (.invokevirtual 133, 3) := by decide +kernel
theorem dX10_read_16 : decode cX10_read 16 = .ok (.i2l, 1) := by decide +kernel
theorem dX10_read_17 : decode cX10_read 17 = .ok (.lreturn, 1) := by decide +kernel
theorem dX10_read_18 : decode cX10_read 18 = .ok (.aload_n 0, 1) := by decide +kernel
theorem dX10_read_19 : decode cX10_read 19 = .ok (.iconst 0, 1) := by decide +kernel
theorem dX10_read_20 : decode cX10_read 20 = .ok (.putfield 94, 3) := by decide +kernel
theorem dX10_read_23 : decode cX10_read 23 = .ok (.aload_n 0, 1) := by decide +kernel
theorem dX10_read_24 : decode cX10_read 24 = .ok (.getfield 10, 3) := by decide +kernel
theorem dX10_read_27 : decode cX10_read 27 = .ok (.getfield 137, 3) := by decide +kernel
theorem dX10_read_30 : decode cX10_read 30 = .ok (.iload_n 1, 1) := by decide +kernel
theorem dX10_read_31 : decode cX10_read 31 = .ok (.aaload, 1) := by decide +kernel
theorem dX10_read_32 : decode cX10_read 32 = .ok (.iload_n 2, 1) := by decide +kernel
theorem dX10_read_33 : decode cX10_read 33 = .ok (.laload, 1) := by decide +kernel
theorem dX10_read_34 : decode cX10_read 34 = .ok (.lreturn, 1) := by decide +kernel
theorem dX10_pour_0 : decode cX10_pour 0 = .ok (.iload_n 1, 1) := by decide +kernel
theorem dX10_pour_1 : decode cX10_pour 1 = .ok (.invokestatic 110, 3) := by decide +kernel
theorem dX10_pour_4 : decode cX10_pour 4 = .ok (.ifCond .eq 10, 3) := by decide +kernel
theorem dX10_pour_7 : decode cX10_pour 7 = .ok (.iload_n 3, 1) := by decide +kernel
theorem dX10_pour_8 : decode cX10_pour 8 = .ok (.invokestatic 110, 3) := by decide +kernel
theorem dX10_pour_11 : decode cX10_pour 11 = .ok (.ifCond .ne 9, 3) := by decide +kernel
theorem dX10_pour_14 : decode cX10_pour 14 = .ok (.aload_n 0, 1) := by decide +kernel
theorem dX10_pour_15 : decode cX10_pour 15 = .ok (.iconst 1, 1) := by decide +kernel
theorem dX10_pour_16 : decode cX10_pour 16 = .ok (.invokevirtual 114, 3) := by decide +kernel
theorem dX10_pour_19 : decode cX10_pour 19 = .ok (.ireturn, 1) := by decide +kernel
theorem dX10_pour_20 : decode cX10_pour 20 = .ok (.aload_n 0, 1) := by decide +kernel
theorem dX10_pour_21 : decode cX10_pour 21 = .ok (.getfield 10, 3) := by decide +kernel
theorem dX10_pour_24 : decode cX10_pour 24 = .ok (.iload_n 1, 1) := by decide +kernel
theorem dX10_pour_25 : decode cX10_pour 25 = .ok (.invokevirtual 141, 3) := by decide +kernel
theorem dX10_pour_28 : decode cX10_pour 28 = .ok (.ifCond .ne 14, 3) := by decide +kernel
theorem dX10_pour_31 : decode cX10_pour 31 = .ok (.aload_n 0, 1) := by decide +kernel
theorem dX10_pour_32 : decode cX10_pour 32 = .ok (.getfield 10, 3) := by decide +kernel
theorem dX10_pour_35 : decode cX10_pour 35 = .ok (.iload_n 3, 1) := by decide +kernel
theorem dX10_pour_36 : decode cX10_pour 36 = .ok (.invokevirtual 141, 3) := by decide +kernel
theorem dX10_pour_39 : decode cX10_pour 39 = .ok (.ifCond .eq 9, 3) := by decide +kernel
theorem dX10_pour_42 : decode cX10_pour 42 = .ok (.aload_n 0, 1) := by decide +kernel
theorem dX10_pour_43 : decode cX10_pour 43 = .ok (.iconst 3, 1) := by decide +kernel
theorem dX10_pour_44 : decode cX10_pour 44 = .ok (.invokevirtual 114, 3) := by decide +kernel
theorem dX10_pour_47 : decode cX10_pour 47 = .ok (.ireturn, 1) := by decide +kernel
theorem dX10_pour_48 : decode cX10_pour 48 = .ok (.aload_n 0, 1) := by decide +kernel
theorem dX10_pour_49 : decode cX10_pour 49 = .ok (.getfield 10, 3) := by decide +kernel
theorem dX10_pour_52 : decode cX10_pour 52 = .ok (.getfield 144, 3) := by decide +kernel
theorem dX10_pour_55 : decode cX10_pour 55 = .ok (.iload_n 1, 1) := by decide +kernel
theorem dX10_pour_56 : decode cX10_pour 56 = .ok (.iaload, 1) := by decide +kernel
theorem dX10_pour_57 : decode cX10_pour 57 = .ok (.aload_n 0, 1) := by decide +kernel
theorem dX10_pour_58 : decode cX10_pour 58 = .ok (.getfield 10, 3) := by decide +kernel
theorem dX10_pour_61 : decode cX10_pour 61 = .ok (.getfield 144, 3) := by decide +kernel
theorem dX10_pour_64 : decode cX10_pour 64 = .ok (.iload_n 3, 1) := by decide +kernel
theorem dX10_pour_65 : decode cX10_pour 65 = .ok (.iaload, 1) := by decide +kernel
theorem dX10_pour_66 : decode cX10_pour 66 = .ok (.if_icmp .eq 10, 3) := by decide +kernel
theorem dX10_pour_69 : decode cX10_pour 69 = .ok (.aload_n 0, 1) := by decide +kernel
theorem dX10_pour_70 : decode cX10_pour 70 = .ok (.bipush 11, 2) := by decide +kernel
theorem dX10_pour_72 : decode cX10_pour 72 = .ok (.invokevirtual 114, 3) := by decide +kernel
theorem dX10_pour_75 : decode cX10_pour 75 = .ok (.ireturn, 1) := by decide +kernel
theorem dX10_pour_76 : decode cX10_pour 76 = .ok (.iload 5, 2) := by decide +kernel
theorem dX10_pour_78 : decode cX10_pour 78 = .ok (.ifCond .ge 10, 3) := by decide +kernel
theorem dX10_pour_81 : decode cX10_pour 81 = .ok (.aload_n 0, 1) := by decide +kernel
theorem dX10_pour_82 : decode cX10_pour 82 = .ok (.bipush 6, 2) := by decide +kernel
theorem dX10_pour_84 : decode cX10_pour 84 = .ok (.invokevirtual 114, 3) := by decide +kernel
theorem dX10_pour_87 : decode cX10_pour 87 = .ok (.ireturn, 1) := by decide +kernel
theorem dX10_pour_88 : decode cX10_pour 88 = .ok (.aload_n 0, 1) := by decide +kernel
theorem dX10_pour_89 : decode cX10_pour 89 = .ok (.getfield 10, 3) := by decide +kernel
theorem dX10_pour_92 : decode cX10_pour 92 = .ok (.iload_n 1, 1) := by decide +kernel
theorem dX10_pour_93 : decode cX10_pour 93 = .ok (.iload_n 2, 1) := by decide +kernel
theorem dX10_pour_94 : decode cX10_pour 94 = .ok (.iload 5, 2) := by decide +kernel
theorem dX10_pour_96 : decode cX10_pour 96 = .ok (.invokevirtual 148, 3) := by decide +kernel
theorem dX10_pour_99 : decode cX10_pour 99 = .ok (.ifCond .eq 18, 3) := by decide +kernel
theorem dX10_pour_102 : decode cX10_pour 102 = .ok (.aload_n 0, 1) := by decide +kernel
theorem dX10_pour_103 : decode cX10_pour 103 = .ok (.getfield 10, 3) := by decide +kernel
theorem dX10_pour_106 : decode cX10_pour 106 = .ok (.iload_n 3, 1) := by decide +kernel
theorem dX10_pour_107 : decode cX10_pour 107 = .ok (.iload 4, 2) := by decide +kernel
theorem dX10_pour_109 : decode cX10_pour 109 = .ok (.iload 5, 2) := by decide +kernel
theorem dX10_pour_111 : decode cX10_pour 111 = .ok (.invokevirtual 148, 3) := by decide +kernel
theorem dX10_pour_114 : decode cX10_pour 114 = .ok (.ifCond .ne 9, 3) := by decide +kernel
theorem dX10_pour_117 : decode cX10_pour 117 = .ok (.aload_n 0, 1) := by decide +kernel
theorem dX10_pour_118 : decode cX10_pour 118 = .ok (.iconst 4, 1) := by decide +kernel
theorem dX10_pour_119 : decode cX10_pour 119 = .ok (.invokevirtual 114, 3) := by decide +kernel
theorem dX10_pour_122 : decode cX10_pour 122 = .ok (.ireturn, 1) := by decide +kernel
theorem dX10_pour_123 : decode cX10_pour 123 = .ok (.aload_n 0, 1) := by decide +kernel
theorem dX10_pour_124 : decode cX10_pour 124 = .ok (.getfield 10, 3) := by decide +kernel
theorem dX10_pour_127 : decode cX10_pour 127 = .ok (.getfield 137, 3) := by decide +kernel
theorem dX10_pour_130 : decode cX10_pour 130 = .ok (.iload_n 1, 1) := by decide +kernel
theorem dX10_pour_131 : decode cX10_pour 131 = .ok (.aaload, 1) := by decide +kernel
theorem dX10_pour_132 : decode cX10_pour 132 = .ok (.iload_n 2, 1) := by decide +kernel
theorem dX10_pour_133 : decode cX10_pour 133 = .ok (.aload_n 0, 1) := by decide +kernel
theorem dX10_pour_134 : decode cX10_pour 134 = .ok (.getfield 10, 3) := by decide +kernel
theorem dX10_pour_137 : decode cX10_pour 137 = .ok (.getfield 137, 3) := by decide +kernel
theorem dX10_pour_140 : decode cX10_pour 140 = .ok (.iload_n 3, 1) := by decide +kernel
theorem dX10_pour_141 : decode cX10_pour 141 = .ok (.aaload, 1) := by decide +kernel
theorem dX10_pour_142 : decode cX10_pour 142 = .ok (.iload 4, 2) := by decide +kernel
theorem dX10_pour_144 : decode cX10_pour 144 = .ok (.iload 5, 2) := by decide +kernel
theorem dX10_pour_146 : decode cX10_pour 146 = .ok (.invokestatic 152, 3) := by decide +kernel
theorem dX10_pour_149 : decode cX10_pour 149 = .ok (.aload_n 0, 1) := by decide +kernel
theorem dX10_pour_150 : decode cX10_pour 150 = .ok (.invokevirtual 121, 3) := by decide +kernel
theorem dX10_pour_153 : decode cX10_pour 153 = .ok (.ireturn, 1) := by decide +kernel
theorem dX10_feed_0 : decode cX10_feed 0 = .ok (.aload_n 0, 1) := by decide +kernel
theorem dX10_feed_1 : decode cX10_feed 1 = .ok (.getfield 44, 3) := by decide +kernel
theorem dX10_feed_4 : decode cX10_feed 4 = .ok (.bipush 20, 2) := by decide +kernel
theorem dX10_feed_6 : decode cX10_feed 6 = .ok (.invokevirtual 158, 3) := by decide +kernel
theorem dX10_feed_9 : decode cX10_feed 9 = .ok (.ifCond .ne 5, 3) := by decide +kernel
theorem dX10_feed_12 : decode cX10_feed 12 = .ok (.iconst (-1), 1) := by decide +kernel
theorem dX10_feed_13 : decode cX10_feed 13 = .ok (.ireturn, 1) := by decide +kernel
theorem dX10_feed_14 : decode cX10_feed 14 = .ok (.aload_n 0, 1) := by decide +kernel
theorem dX10_feed_15 : decode cX10_feed 15 = .ok (.getfield 44, 3) := by decide +kernel
theorem dX10_feed_18 : decode cX10_feed 18 = .ok (.iload_n 1, 1) := by decide +kernel
theorem dX10_feed_19 : decode cX10_feed 19 = .ok (.invokevirtual 161, 3) := by decide +kernel
theorem dX10_feed_22 : decode cX10_feed 22 = .ok (.aload_n 0, 1) := by decide +kernel
theorem dX10_feed_23 : decode cX10_feed 23 = .ok (.getfield 44, 3) := by decide +kernel
theorem dX10_feed_26 : decode cX10_feed 26 = .ok (.iload_n 2, 1) := by decide +kernel
theorem dX10_feed_27 : decode cX10_feed 27 = .ok (.invokevirtual 161, 3) := by decide +kernel
theorem dX10_feed_30 : decode cX10_feed 30 = .ok (.aload_n 0, 1) := by decide +kernel
theorem dX10_feed_31 : decode cX10_feed 31 = .ok (.getfield 44, 3) := by decide +kernel
theorem dX10_feed_34 : decode cX10_feed 34 = .ok (.iload_n 3, 1) := by decide +kernel
theorem dX10_feed_35 : decode cX10_feed 35 = .ok (.invokevirtual 161, 3) := by decide +kernel
theorem dX10_feed_38 : decode cX10_feed 38 = .ok (.aload_n 0, 1) := by decide +kernel
theorem dX10_feed_39 : decode cX10_feed 39 = .ok (.getfield 44, 3) := by decide +kernel
theorem dX10_feed_42 : decode cX10_feed 42 = .ok (.iload 4, 2) := by decide +kernel
theorem dX10_feed_44 : decode cX10_feed 44 = .ok (.invokevirtual 161, 3) := by decide +kernel
theorem dX10_feed_47 : decode cX10_feed 47 = .ok (.aload_n 0, 1) := by decide +kernel
theorem dX10_feed_48 : decode cX10_feed 48 = .ok (.getfield 44, 3) := by decide +kernel
theorem dX10_feed_51 : decode cX10_feed 51 = .ok (.iload 5, 2) := by decide +kernel
theorem dX10_feed_53 : decode cX10_feed 53 = .ok (.invokevirtual 161, 3) := by decide +kernel
theorem dX10_feed_56 : decode cX10_feed 56 = .ok (.aload_n 0, 1) := by decide +kernel
theorem dX10_feed_57 : decode cX10_feed 57 = .ok (.getfield 44, 3) := by decide +kernel
theorem dX10_feed_60 : decode cX10_feed 60 = .ok (.getfield 165, 3) := by decide +kernel
theorem dX10_feed_63 : decode cX10_feed 63 = .ok (.ireturn, 1) := by decide +kernel
theorem dX10_court_0 : decode cX10_court 0 = .ok (.iload_n 1, 1) := by decide +kernel
theorem dX10_court_1 : decode cX10_court 1 = .ok (.ifCond .lt 14, 3) := by decide +kernel
theorem dX10_court_4 : decode cX10_court 4 = .ok (.iload_n 1, 1) := by decide +kernel
theorem dX10_court_5 : decode cX10_court 5 = .ok (.aload_n 0, 1) := by decide +kernel
theorem dX10_court_6 : decode cX10_court 6 = .ok (.getfield 44, 3) := by decide +kernel
theorem dX10_court_9 : decode cX10_court 9 = .ok (.getfield 165, 3) := by decide +kernel
theorem dX10_court_12 : decode cX10_court 12 = .ok (.if_icmp .le 9, 3) := by decide +kernel
theorem dX10_court_15 : decode cX10_court 15 = .ok (.aload_n 0, 1) := by decide +kernel
theorem dX10_court_16 : decode cX10_court 16 = .ok (.iconst 5, 1) := by decide +kernel
theorem dX10_court_17 : decode cX10_court 17 = .ok (.invokevirtual 133, 3) := by decide +kernel
theorem dX10_court_20 : decode cX10_court 20 = .ok (.ireturn, 1) := by decide +kernel
theorem dX10_court_21 : decode cX10_court 21 = .ok (.aload_n 0, 1) := by decide +kernel
theorem dX10_court_22 : decode cX10_court 22 = .ok (.getfield 51, 3) := by decide +kernel
theorem dX10_court_25 : decode cX10_court 25 = .ok (.aload_n 0, 1) := by decide +kernel
theorem dX10_court_26 : decode cX10_court 26 = .ok (.getfield 44, 3) := by decide +kernel
theorem dX10_court_29 : decode cX10_court 29 = .ok (.iload_n 1, 1) := by decide +kernel
theorem dX10_court_30 : decode cX10_court 30 = .ok (.aload_n 0, 1) := by decide +kernel
theorem dX10_court_31 : decode cX10_court 31 = .ok (.getfield 30, 3) := by decide +kernel
theorem dX10_court_34 : decode cX10_court 34 = .ok (.invokevirtual 168, 3) := by decide +kernel
theorem dX10_court_37 : decode cX10_court 37 = .ok (.aload_n 0, 1) := by decide +kernel
theorem dX10_court_38 : decode cX10_court 38 = .ok (.getfield 44, 3) := by decide +kernel
theorem dX10_court_41 : decode cX10_court 41 = .ok (.iconst 0, 1) := by decide +kernel
theorem dX10_court_42 : decode cX10_court 42 = .ok (.putfield 165, 3) := by decide +kernel
theorem dX10_court_45 : decode cX10_court 45 = .ok (.aload_n 0, 1) := by decide +kernel
theorem dX10_court_46 : decode cX10_court 46 = .ok (.invokevirtual 172, 3) := by decide +kernel
theorem dX10_court_49 : decode cX10_court 49 = .ok (.ifCond .eq 10, 3) := by decide +kernel
theorem dX10_court_52 : decode cX10_court 52 = .ok (.aload_n 0, 1) := by decide +kernel
theorem dX10_court_53 : decode cX10_court 53 = .ok (.bipush 10, 2) := by decide +kernel
theorem dX10_court_55 : decode cX10_court 55 = .ok (.invokevirtual 133, 3) := by decide +kernel
theorem dX10_court_58 : decode cX10_court 58 = .ok (.ireturn, 1) := by decide +kernel
theorem dX10_court_59 : decode cX10_court 59 = .ok (.aload_n 0, 1) := by decide +kernel
theorem dX10_court_60 : decode cX10_court 60 = .ok (.getfield 19, 3) := by decide +kernel
theorem dX10_court_63 : decode cX10_court 63 = .ok (.getfield 175, 3) := by decide +kernel
theorem dX10_court_66 : decode cX10_court 66 = .ok (.aload_n 0, 1) := by decide +kernel
theorem dX10_court_67 : decode cX10_court 67 = .ok (.getfield 30, 3) := by decide +kernel
theorem dX10_court_70 : decode cX10_court 70 = .ok (.invokevirtual 178, 3) := by decide +kernel
theorem dX10_court_73 : decode cX10_court 73 = .ok (.aload_n 0, 1) := by decide +kernel
theorem dX10_court_74 : decode cX10_court 74 = .ok (.getfield 19, 3) := by decide +kernel
theorem dX10_court_77 : decode cX10_court 77 = .ok (.getfield 182, 3) := by decide +kernel
theorem dX10_court_80 : decode cX10_court 80 = .ok (.aload_n 0, 1) := by decide +kernel
theorem dX10_court_81 : decode cX10_court 81 = .ok (.getfield 19, 3) := by decide +kernel
theorem dX10_court_84 : decode cX10_court 84 = .ok (.getfield 175, 3) := by decide +kernel
theorem dX10_court_87 : decode cX10_court 87 = .ok (.invokevirtual 185, 3) := by decide +kernel
theorem dX10_court_90 : decode cX10_court 90 = .ok (.aload_n 0, 1) := by decide +kernel
theorem dX10_court_91 : decode cX10_court 91 = .ok (.getfield 19, 3) := by decide +kernel
theorem dX10_court_94 : decode cX10_court 94 = .ok (.getfield 188, 3) := by decide +kernel
theorem dX10_court_97 : decode cX10_court 97 = .ok (.invokevirtual 191, 3) := by decide +kernel
theorem dX10_court_100 : decode cX10_court 100 = .ok (.aload_n 0, 1) := by decide +kernel
theorem dX10_court_101 : decode cX10_court 101 = .ok (.aload_n 0, 1) := by decide +kernel
theorem dX10_court_102 : decode cX10_court 102 = .ok (.getfield 19, 3) := by decide +kernel
theorem dX10_court_105 : decode cX10_court 105 = .ok (.getfield 175, 3) := by decide +kernel
theorem dX10_court_108 : decode cX10_court 108 = .ok (.getfield 194, 3) := by decide +kernel
theorem dX10_court_111 : decode cX10_court 111 = .ok (.iconst 0, 1) := by decide +kernel
theorem dX10_court_112 : decode cX10_court 112 = .ok (.iaload, 1) := by decide +kernel
theorem dX10_court_113 : decode cX10_court 113 = .ok (.invokevirtual 197, 3) := by decide +kernel
theorem dX10_court_116 : decode cX10_court 116 = .ok (.ireturn, 1) := by decide +kernel
theorem dX10_weeks_0 : decode cX10_weeks 0 = .ok (.iload_n 1, 1) := by decide +kernel
theorem dX10_weeks_1 : decode cX10_weeks 1 = .ok (.ifCond .lt 21, 3) := by decide +kernel
theorem dX10_weeks_4 : decode cX10_weeks 4 = .ok (.iload_n 1, 1) := by decide +kernel
theorem dX10_weeks_5 : decode cX10_weeks 5 = .ok (.aload_n 0, 1) := by decide +kernel
theorem dX10_weeks_6 : decode cX10_weeks 6 = .ok (.getfield 44, 3) := by decide +kernel
theorem dX10_weeks_9 : decode cX10_weeks 9 = .ok (.getfield 165, 3) := by decide +kernel
theorem dX10_weeks_12 : decode cX10_weeks 12 = .ok (.if_icmp .gt 10, 3) := by decide +kernel
theorem dX10_weeks_15 : decode cX10_weeks 15 = .ok (.iload_n 1, 1) := by decide +kernel
theorem dX10_weeks_16 : decode cX10_weeks 16 = .ok (.sipush 300, 3) := by decide +kernel
theorem dX10_weeks_19 : decode cX10_weeks 19 = .ok (.if_icmp .le 9, 3) := by decide +kernel
theorem dX10_weeks_22 : decode cX10_weeks 22 = .ok (.aload_n 0, 1) := by decide +kernel
theorem dX10_weeks_23 : decode cX10_weeks 23 = .ok (.iconst 5, 1) := by decide +kernel
theorem dX10_weeks_24 : decode cX10_weeks 24 = .ok (.invokevirtual 133, 3) := by decide +kernel
theorem dX10_weeks_27 : decode cX10_weeks 27 = .ok (.ireturn, 1) := by decide +kernel
theorem dX10_weeks_28 : decode cX10_weeks 28 = .ok (.aload_n 0, 1) := by decide +kernel
theorem dX10_weeks_29 : decode cX10_weeks 29 = .ok (.getfield 58, 3) := by decide +kernel
theorem dX10_weeks_32 : decode cX10_weeks 32 = .ok (.aload_n 0, 1) := by decide +kernel
theorem dX10_weeks_33 : decode cX10_weeks 33 = .ok (.getfield 44, 3) := by decide +kernel
theorem dX10_weeks_36 : decode cX10_weeks 36 = .ok (.iload_n 1, 1) := by decide +kernel
theorem dX10_weeks_37 : decode cX10_weeks 37 = .ok (.aload_n 0, 1) := by decide +kernel
theorem dX10_weeks_38 : decode cX10_weeks 38 = .ok (.getfield 19, 3) := by decide +kernel
theorem dX10_weeks_41 : decode cX10_weeks 41 = .ok (.getfield 175, 3) := by decide +kernel
theorem dX10_weeks_44 : decode cX10_weeks 44 = .ok (.aload_n 0, 1) := by decide +kernel
theorem dX10_weeks_45 : decode cX10_weeks 45 = .ok (.getfield 37, 3) := by decide +kernel
theorem dX10_weeks_48 : decode cX10_weeks 48 = .ok (.invokevirtual 200, 3) := by decide +kernel
theorem dX10_weeks_51 : decode cX10_weeks 51 = .ok (.aload_n 0, 1) := by decide +kernel
theorem dX10_weeks_52 : decode cX10_weeks 52 = .ok (.getfield 44, 3) := by decide +kernel
theorem dX10_weeks_55 : decode cX10_weeks 55 = .ok (.iconst 0, 1) := by decide +kernel
theorem dX10_weeks_56 : decode cX10_weeks 56 = .ok (.putfield 165, 3) := by decide +kernel
theorem dX10_weeks_59 : decode cX10_weeks 59 = .ok (.aload_n 0, 1) := by decide +kernel
theorem dX10_weeks_60 : decode cX10_weeks 60 = .ok (.invokevirtual 172, 3) := by decide +kernel
theorem dX10_weeks_63 : decode cX10_weeks 63 = .ok (.ifCond .eq 10, 3) := by decide +kernel
theorem dX10_weeks_66 : decode cX10_weeks 66 = .ok (.aload_n 0, 1) := by decide +kernel
theorem dX10_weeks_67 : decode cX10_weeks 67 = .ok (.bipush 10, 2) := by decide +kernel
theorem dX10_weeks_69 : decode cX10_weeks 69 = .ok (.invokevirtual 133, 3) := by decide +kernel
theorem dX10_weeks_72 : decode cX10_weeks 72 = .ok (.ireturn, 1) := by decide +kernel
theorem dX10_weeks_73 : decode cX10_weeks 73 = .ok (.aload_n 0, 1) := by decide +kernel
theorem dX10_weeks_74 : decode cX10_weeks 74 = .ok (.getfield 19, 3) := by decide +kernel
theorem dX10_weeks_77 : decode cX10_weeks 77 = .ok (.getfield 188, 3) := by decide +kernel
theorem dX10_weeks_80 : decode cX10_weeks 80 = .ok (.aload_n 0, 1) := by decide +kernel
theorem dX10_weeks_81 : decode cX10_weeks 81 = .ok (.getfield 37, 3) := by decide +kernel
theorem dX10_weeks_84 : decode cX10_weeks 84 = .ok (.invokevirtual 204, 3) := by decide +kernel
theorem dX10_weeks_87 : decode cX10_weeks 87 = .ok (.aload_n 0, 1) := by decide +kernel
theorem dX10_weeks_88 : decode cX10_weeks 88 = .ok (.aload_n 0, 1) := by decide +kernel
theorem dX10_weeks_89 : decode cX10_weeks 89 = .ok (.getfield 19, 3) := by decide +kernel
theorem dX10_weeks_92 : decode cX10_weeks 92 = .ok (.getfield 188, 3) := by decide +kernel
theorem dX10_weeks_95 : decode cX10_weeks 95 = .ok (.getfield 207, 3) := by decide +kernel
theorem dX10_weeks_98 : decode cX10_weeks 98 = .ok (.invokevirtual 197, 3) := by decide +kernel
theorem dX10_weeks_101 : decode cX10_weeks 101 = .ok (.ireturn, 1) := by decide +kernel
theorem dX10_fault_0 : decode cX10_fault 0 = .ok (.iload_n 1, 1) := by decide +kernel
theorem dX10_fault_1 : decode cX10_fault 1 = .ok (.ifCond .ne 8, 3) := by decide +kernel
theorem dX10_fault_4 : decode cX10_fault 4 = .ok (.aload_n 0, 1) := by decide +kernel
theorem dX10_fault_5 : decode cX10_fault 5 = .ok (.getfield 97, 3) := by decide +kernel
theorem dX10_fault_8 : decode cX10_fault 8 = .ok (.ireturn, 1) := by decide +kernel
theorem dX10_fault_9 : decode cX10_fault 9 = .ok (.iload_n 1, 1) := by decide +kernel
theorem dX10_fault_10 : decode cX10_fault 10 = .ok (.iconst 1, 1) := by decide +kernel
theorem dX10_fault_11 : decode cX10_fault 11 = .ok (.if_icmp .ne 10, 3) := by decide +kernel
theorem dX10_fault_14 : decode cX10_fault 14 = .ok (.aload_n 0, 1) := by decide +kernel
theorem dX10_fault_15 : decode cX10_fault 15 = .ok (.getfield 100, 3) := by decide +kernel
theorem dX10_fault_18 : decode cX10_fault 18 = .ok (.goto 4, 3) := by decide +kernel
theorem dX10_fault_21 : decode cX10_fault 21 = .ok (.iconst (-1), 1) := by decide +kernel
theorem dX10_fault_22 : decode cX10_fault 22 = .ok (.ireturn, 1) := by decide +kernel
theorem dX10_many_0 : decode cX10_many 0 = .ok (.iload_n 1, 1) := by decide +kernel
theorem dX10_many_1 : decode cX10_many 1 = .ok (.ifCond .lt 9, 3) := by decide +kernel
theorem dX10_many_4 : decode cX10_many 4 = .ok (.iload_n 1, 1) := by decide +kernel
theorem dX10_many_5 : decode cX10_many 5 = .ok (.bipush 11, 2) := by decide +kernel
theorem dX10_many_7 : decode cX10_many 7 = .ok (.if_icmp .le 9, 3) := by decide +kernel
theorem dX10_many_10 : decode cX10_many 10 = .ok (.aload_n 0, 1) := by decide +kernel
theorem dX10_many_11 : decode cX10_many 11 = .ok (.iconst 5, 1) := by decide +kernel
theorem dX10_many_12 : decode cX10_many 12 = .ok (.invokevirtual 133, 3) := by decide +kernel
theorem dX10_many_15 : decode cX10_many 15 = .ok (.ireturn, 1) := by decide +kernel
theorem dX10_many_16 : decode cX10_many 16 = .ok (.aload_n 0, 1) := by decide +kernel
theorem dX10_many_17 : decode cX10_many 17 = .ok (.getfield 19, 3) := by decide +kernel
theorem dX10_many_20 : decode cX10_many 20 = .ok (.getfield 175, 3) := by decide +kernel
theorem dX10_many_23 : decode cX10_many 23 = .ok (.astore_n 2, 1) := by decide +kernel
theorem dX10_many_24 : decode cX10_many 24 = .ok (.aload_n 0, 1) := by decide +kernel
theorem dX10_many_25 : decode cX10_many 25 = .ok (.getfield 19, 3) := by decide +kernel
theorem dX10_many_28 : decode cX10_many 28 = .ok (.getfield 182, 3) := by decide +kernel
theorem dX10_many_31 : decode cX10_many 31 = .ok (.astore_n 3, 1) := by decide +kernel
theorem dX10_many_32 : decode cX10_many 32 = .ok (.iload_n 1, 1) := by decide +kernel
theorem dX10_many_33 : decode cX10_many 33 = .ok (.tableswitch 151 4 11 #[47, 72, 81, 90, 99, 124, 133, 142], 47) := by decide +kernel
theorem dX10_many_80 : decode cX10_many 80 = .ok (.aload_n 2, 1) := by decide +kernel
theorem dX10_many_81 : decode cX10_many 81 = .ok (.getfield 210, 3) := by decide +kernel
theorem dX10_many_84 : decode cX10_many 84 = .ok (.ifCond .ne 12, 3) := by decide +kernel
theorem dX10_many_87 : decode cX10_many 87 = .ok (.aload_n 0, 1) := by decide +kernel
theorem dX10_many_88 : decode cX10_many 88 = .ok (.bipush 8, 2) := by decide +kernel
theorem dX10_many_90 : decode cX10_many 90 = .ok (.invokevirtual 133, 3) := by decide +kernel
theorem dX10_many_93 : decode cX10_many 93 = .ok (.goto 11, 3) := by decide +kernel
theorem dX10_many_96 : decode cX10_many 96 = .ok (.aload_n 0, 1) := by decide +kernel
theorem dX10_many_97 : decode cX10_many 97 = .ok (.aload_n 2, 1) := by decide +kernel
theorem dX10_many_98 : decode cX10_many 98 = .ok (.getfield 210, 3) := by decide +kernel
theorem dX10_many_101 : decode cX10_many 101 = .ok (.invokevirtual 197, 3) := by decide +kernel
theorem dX10_many_104 : decode cX10_many 104 = .ok (.ireturn, 1) := by decide +kernel
theorem dX10_many_105 : decode cX10_many 105 = .ok (.aload_n 0, 1) := by decide +kernel
theorem dX10_many_106 : decode cX10_many 106 = .ok (.aload_n 2, 1) := by decide +kernel
theorem dX10_many_107 : decode cX10_many 107 = .ok (.getfield 213, 3) := by decide +kernel
theorem dX10_many_110 : decode cX10_many 110 = .ok (.invokevirtual 197, 3) := by decide +kernel
theorem dX10_many_113 : decode cX10_many 113 = .ok (.ireturn, 1) := by decide +kernel
theorem dX10_many_114 : decode cX10_many 114 = .ok (.aload_n 0, 1) := by decide +kernel
theorem dX10_many_115 : decode cX10_many 115 = .ok (.aload_n 3, 1) := by decide +kernel
theorem dX10_many_116 : decode cX10_many 116 = .ok (.getfield 216, 3) := by decide +kernel
theorem dX10_many_119 : decode cX10_many 119 = .ok (.invokevirtual 197, 3) := by decide +kernel
theorem dX10_many_122 : decode cX10_many 122 = .ok (.ireturn, 1) := by decide +kernel
theorem dX10_many_123 : decode cX10_many 123 = .ok (.aload_n 0, 1) := by decide +kernel
theorem dX10_many_124 : decode cX10_many 124 = .ok (.aload_n 3, 1) := by decide +kernel
theorem dX10_many_125 : decode cX10_many 125 = .ok (.getfield 219, 3) := by decide +kernel
theorem dX10_many_128 : decode cX10_many 128 = .ok (.invokevirtual 197, 3) := by decide +kernel
theorem dX10_many_131 : decode cX10_many 131 = .ok (.ireturn, 1) := by decide +kernel
theorem dX10_many_132 : decode cX10_many 132 = .ok (.aload_n 0, 1) := by decide +kernel
theorem dX10_many_133 : decode cX10_many 133 = .ok (.invokevirtual 222, 3) := by decide +kernel
theorem dX10_many_136 : decode cX10_many 136 = .ok (.ifCond .eq 12, 3) := by decide +kernel
theorem dX10_many_139 : decode cX10_many 139 = .ok (.aload_n 0, 1) := by decide +kernel
theorem dX10_many_140 : decode cX10_many 140 = .ok (.bipush 8, 2) := by decide +kernel
theorem dX10_many_142 : decode cX10_many 142 = .ok (.invokevirtual 133, 3) := by decide +kernel
theorem dX10_many_145 : decode cX10_many 145 = .ok (.goto 11, 3) := by decide +kernel
theorem dX10_many_148 : decode cX10_many 148 = .ok (.aload_n 0, 1) := by decide +kernel
theorem dX10_many_149 : decode cX10_many 149 = .ok (.aload_n 3, 1) := by decide +kernel
theorem dX10_many_150 : decode cX10_many 150 = .ok (.getfield 225, 3) := by decide +kernel
theorem dX10_many_153 : decode cX10_many 153 = .ok (.invokevirtual 197, 3) := by decide +kernel
theorem dX10_many_156 : decode cX10_many 156 = .ok (.ireturn, 1) := by decide +kernel
theorem dX10_many_157 : decode cX10_many 157 = .ok (.aload_n 0, 1) := by decide +kernel
theorem dX10_many_158 : decode cX10_many 158 = .ok (.aload_n 3, 1) := by decide +kernel
theorem dX10_many_159 : decode cX10_many 159 = .ok (.getfield 228, 3) := by decide +kernel
theorem dX10_many_162 : decode cX10_many 162 = .ok (.invokevirtual 197, 3) := by decide +kernel
theorem dX10_many_165 : decode cX10_many 165 = .ok (.ireturn, 1) := by decide +kernel
theorem dX10_many_166 : decode cX10_many 166 = .ok (.aload_n 0, 1) := by decide +kernel
theorem dX10_many_167 : decode cX10_many 167 = .ok (.aload_n 3, 1) := by decide +kernel
theorem dX10_many_168 : decode cX10_many 168 = .ok (.getfield 231, 3) := by decide +kernel
theorem dX10_many_171 : decode cX10_many 171 = .ok (.invokevirtual 197, 3) := by decide +kernel
theorem dX10_many_174 : decode cX10_many 174 = .ok (.ireturn, 1) := by decide +kernel
theorem dX10_many_175 : decode cX10_many 175 = .ok (.aload_n 0, 1) := by decide +kernel
theorem dX10_many_176 : decode cX10_many 176 = .ok (.aload_n 3, 1) := by decide +kernel
theorem dX10_many_177 : decode cX10_many 177 = .ok (.getfield 234, 3) := by decide +kernel
theorem dX10_many_180 : decode cX10_many 180 = .ok (.invokevirtual 197, 3) := by decide +kernel
theorem dX10_many_183 : decode cX10_many 183 = .ok (.ireturn, 1) := by decide +kernel
theorem dX10_many_184 : decode cX10_many 184 = .ok (.aload_n 0, 1) := by decide +kernel
theorem dX10_many_185 : decode cX10_many 185 = .ok (.aload_n 2, 1) := by decide +kernel
theorem dX10_many_186 : decode cX10_many 186 = .ok (.getfield 194, 3) := by decide +kernel
theorem dX10_many_189 : decode cX10_many 189 = .ok (.iload_n 1, 1) := by decide +kernel
theorem dX10_many_190 : decode cX10_many 190 = .ok (.iaload, 1) := by decide +kernel
theorem dX10_many_191 : decode cX10_many 191 = .ok (.invokevirtual 197, 3) := by decide +kernel
theorem dX10_many_194 : decode cX10_many 194 = .ok (.ireturn, 1) := by decide +kernel
theorem dX10_juror_0 : decode cX10_juror 0 = .ok (.aload_n 0, 1) := by decide +kernel
theorem dX10_juror_1 : decode cX10_juror 1 = .ok (.iconst 0, 1) := by decide +kernel
theorem dX10_juror_2 : decode cX10_juror 2 = .ok (.iload_n 1, 1) := by decide +kernel
theorem dX10_juror_3 : decode cX10_juror 3 = .ok (.invokevirtual 237, 3) := by decide +kernel
theorem dX10_juror_6 : decode cX10_juror 6 = .ok (.ifCond .eq 9, 3) := by decide +kernel
theorem dX10_juror_9 : decode cX10_juror 9 = .ok (.aload_n 0, 1) := by decide +kernel
theorem dX10_juror_10 : decode cX10_juror 10 = .ok (.iconst 2, 1) := by decide +kernel
theorem dX10_juror_11 : decode cX10_juror 11 = .ok (.invokevirtual 133, 3) := by decide +kernel
theorem dX10_juror_14 : decode cX10_juror 14 = .ok (.ireturn, 1) := by decide +kernel
theorem dX10_juror_15 : decode cX10_juror 15 = .ok (.iload_n 2, 1) := by decide +kernel
theorem dX10_juror_16 : decode cX10_juror 16 = .ok (.tableswitch 100 0 3 #[32, 49, 66, 83], 32) := by decide +kernel
theorem dX10_juror_48 : decode cX10_juror 48 = .ok (.aload_n 0, 1) := by decide +kernel
theorem dX10_juror_49 : decode cX10_juror 49 = .ok (.aload_n 0, 1) := by decide +kernel
theorem dX10_juror_50 : decode cX10_juror 50 = .ok (.getfield 19, 3) := by decide +kernel
theorem dX10_juror_53 : decode cX10_juror 53 = .ok (.getfield 182, 3) := by decide +kernel
theorem dX10_juror_56 : decode cX10_juror 56 = .ok (.getfield 241, 3) := by decide +kernel
theorem dX10_juror_59 : decode cX10_juror 59 = .ok (.iload_n 1, 1) := by decide +kernel
theorem dX10_juror_60 : decode cX10_juror 60 = .ok (.iaload, 1) := by decide +kernel
theorem dX10_juror_61 : decode cX10_juror 61 = .ok (.invokevirtual 197, 3) := by decide +kernel
theorem dX10_juror_64 : decode cX10_juror 64 = .ok (.ireturn, 1) := by decide +kernel
theorem dX10_juror_65 : decode cX10_juror 65 = .ok (.aload_n 0, 1) := by decide +kernel
theorem dX10_juror_66 : decode cX10_juror 66 = .ok (.aload_n 0, 1) := by decide +kernel
theorem dX10_juror_67 : decode cX10_juror 67 = .ok (.getfield 19, 3) := by decide +kernel
theorem dX10_juror_70 : decode cX10_juror 70 = .ok (.getfield 175, 3) := by decide +kernel
theorem dX10_juror_73 : decode cX10_juror 73 = .ok (.getfield 244, 3) := by decide +kernel
theorem dX10_juror_76 : decode cX10_juror 76 = .ok (.iload_n 1, 1) := by decide +kernel
theorem dX10_juror_77 : decode cX10_juror 77 = .ok (.iaload, 1) := by decide +kernel
theorem dX10_juror_78 : decode cX10_juror 78 = .ok (.invokevirtual 197, 3) := by decide +kernel
theorem dX10_juror_81 : decode cX10_juror 81 = .ok (.ireturn, 1) := by decide +kernel
theorem dX10_juror_82 : decode cX10_juror 82 = .ok (.aload_n 0, 1) := by decide +kernel
theorem dX10_juror_83 : decode cX10_juror 83 = .ok (.aload_n 0, 1) := by decide +kernel
theorem dX10_juror_84 : decode cX10_juror 84 = .ok (.getfield 19, 3) := by decide +kernel
theorem dX10_juror_87 : decode cX10_juror 87 = .ok (.getfield 175, 3) := by decide +kernel
theorem dX10_juror_90 : decode cX10_juror 90 = .ok (.getfield 247, 3) := by decide +kernel
theorem dX10_juror_93 : decode cX10_juror 93 = .ok (.iload_n 1, 1) := by decide +kernel
theorem dX10_juror_94 : decode cX10_juror 94 = .ok (.iaload, 1) := by decide +kernel
theorem dX10_juror_95 : decode cX10_juror 95 = .ok (.invokevirtual 197, 3) := by decide +kernel
theorem dX10_juror_98 : decode cX10_juror 98 = .ok (.ireturn, 1) := by decide +kernel
theorem dX10_juror_99 : decode cX10_juror 99 = .ok (.aload_n 0, 1) := by decide +kernel
theorem dX10_juror_100 : decode cX10_juror 100 = .ok (.aload_n 0, 1) := by decide +kernel
theorem dX10_juror_101 : decode cX10_juror 101 = .ok (.getfield 19, 3) := by decide +kernel
theorem dX10_juror_104 : decode cX10_juror 104 = .ok (.getfield 175, 3) := by decide +kernel
theorem dX10_juror_107 : decode cX10_juror 107 = .ok (.getfield 250, 3) := by decide +kernel
theorem dX10_juror_110 : decode cX10_juror 110 = .ok (.iload_n 1, 1) := by decide +kernel
theorem dX10_juror_111 : decode cX10_juror 111 = .ok (.iaload, 1) := by decide +kernel
theorem dX10_juror_112 : decode cX10_juror 112 = .ok (.invokevirtual 197, 3) := by decide +kernel
theorem dX10_juror_115 : decode cX10_juror 115 = .ok (.ireturn, 1) := by decide +kernel
theorem dX10_juror_116 : decode cX10_juror 116 = .ok (.aload_n 0, 1) := by decide +kernel
theorem dX10_juror_117 : decode cX10_juror 117 = .ok (.iconst 5, 1) := by decide +kernel
theorem dX10_juror_118 : decode cX10_juror 118 = .ok (.invokevirtual 133, 3) := by decide +kernel
theorem dX10_juror_121 : decode cX10_juror 121 = .ok (.ireturn, 1) := by decide +kernel
theorem dX10_sways_0 : decode cX10_sways 0 = .ok (.aload_n 0, 1) := by decide +kernel
theorem dX10_sways_1 : decode cX10_sways 1 = .ok (.iconst 0, 1) := by decide +kernel
theorem dX10_sways_2 : decode cX10_sways 2 = .ok (.iload_n 1, 1) := by decide +kernel
theorem dX10_sways_3 : decode cX10_sways 3 = .ok (.invokevirtual 237, 3) := by decide +kernel
theorem dX10_sways_6 : decode cX10_sways 6 = .ok (.ifCond .ne 12, 3) := by decide +kernel
theorem dX10_sways_9 : decode cX10_sways 9 = .ok (.aload_n 0, 1) := by decide +kernel
theorem dX10_sways_10 : decode cX10_sways 10 = .ok (.iconst 0, 1) := by decide +kernel
theorem dX10_sways_11 : decode cX10_sways 11 = .ok (.iload_n 2, 1) := by decide +kernel
theorem dX10_sways_12 : decode cX10_sways 12 = .ok (.invokevirtual 237, 3) := by decide +kernel
theorem dX10_sways_15 : decode cX10_sways 15 = .ok (.ifCond .eq 9, 3) := by decide +kernel
theorem dX10_sways_18 : decode cX10_sways 18 = .ok (.aload_n 0, 1) := by decide +kernel
theorem dX10_sways_19 : decode cX10_sways 19 = .ok (.iconst 2, 1) := by decide +kernel
theorem dX10_sways_20 : decode cX10_sways 20 = .ok (.invokevirtual 133, 3) := by decide +kernel
theorem dX10_sways_23 : decode cX10_sways 23 = .ok (.ireturn, 1) := by decide +kernel
theorem dX10_sways_24 : decode cX10_sways 24 = .ok (.iload_n 1, 1) := by decide +kernel
theorem dX10_sways_25 : decode cX10_sways 25 = .ok (.iload_n 2, 1) := by decide +kernel
theorem dX10_sways_26 : decode cX10_sways 26 = .ok (.if_icmp .ne 9, 3) := by decide +kernel
theorem dX10_sways_29 : decode cX10_sways 29 = .ok (.aload_n 0, 1) := by decide +kernel
theorem dX10_sways_30 : decode cX10_sways 30 = .ok (.iconst 5, 1) := by decide +kernel
theorem dX10_sways_31 : decode cX10_sways 31 = .ok (.invokevirtual 133, 3) := by decide +kernel
theorem dX10_sways_34 : decode cX10_sways 34 = .ok (.ireturn, 1) := by decide +kernel
theorem dX10_sways_35 : decode cX10_sways 35 = .ok (.aload_n 0, 1) := by decide +kernel
theorem dX10_sways_36 : decode cX10_sways 36 = .ok (.aload_n 0, 1) := by decide +kernel
theorem dX10_sways_37 : decode cX10_sways 37 = .ok (.getfield 19, 3) := by decide +kernel
theorem dX10_sways_40 : decode cX10_sways 40 = .ok (.getfield 175, 3) := by decide +kernel
theorem dX10_sways_43 : decode cX10_sways 43 = .ok (.iload_n 1, 1) := by decide +kernel
theorem dX10_sways_44 : decode cX10_sways 44 = .ok (.iload_n 2, 1) := by decide +kernel
theorem dX10_sways_45 : decode cX10_sways 45 = .ok (.invokevirtual 253, 3) := by decide +kernel
theorem dX10_sways_48 : decode cX10_sways 48 = .ok (.invokevirtual 197, 3) := by decide +kernel
theorem dX10_sways_51 : decode cX10_sways 51 = .ok (.ireturn, 1) := by decide +kernel
theorem dX10_proof_0 : decode cX10_proof 0 = .ok (.aload_n 0, 1) := by decide +kernel
theorem dX10_proof_1 : decode cX10_proof 1 = .ok (.iconst 1, 1) := by decide +kernel
theorem dX10_proof_2 : decode cX10_proof 2 = .ok (.iload_n 1, 1) := by decide +kernel
theorem dX10_proof_3 : decode cX10_proof 3 = .ok (.invokevirtual 237, 3) := by decide +kernel
theorem dX10_proof_6 : decode cX10_proof 6 = .ok (.ifCond .eq 9, 3) := by decide +kernel
theorem dX10_proof_9 : decode cX10_proof 9 = .ok (.aload_n 0, 1) := by decide +kernel
theorem dX10_proof_10 : decode cX10_proof 10 = .ok (.iconst 2, 1) := by decide +kernel
theorem dX10_proof_11 : decode cX10_proof 11 = .ok (.invokevirtual 133, 3) := by decide +kernel
theorem dX10_proof_14 : decode cX10_proof 14 = .ok (.ireturn, 1) := by decide +kernel
theorem dX10_proof_15 : decode cX10_proof 15 = .ok (.aload_n 0, 1) := by decide +kernel
theorem dX10_proof_16 : decode cX10_proof 16 = .ok (.aload_n 0, 1) := by decide +kernel
theorem dX10_proof_17 : decode cX10_proof 17 = .ok (.getfield 19, 3) := by decide +kernel
theorem dX10_proof_20 : decode cX10_proof 20 = .ok (.getfield 175, 3) := by decide +kernel
theorem dX10_proof_23 : decode cX10_proof 23 = .ok (.getfield 256, 3) := by decide +kernel
theorem dX10_proof_26 : decode cX10_proof 26 = .ok (.iload_n 1, 1) := by decide +kernel
theorem dX10_proof_27 : decode cX10_proof 27 = .ok (.iaload, 1) := by decide +kernel
theorem dX10_proof_28 : decode cX10_proof 28 = .ok (.invokevirtual 197, 3) := by decide +kernel
theorem dX10_proof_31 : decode cX10_proof 31 = .ok (.ireturn, 1) := by decide +kernel
theorem dX10_follows_0 : decode cX10_follows 0 = .ok (.aload_n 0, 1) := by decide +kernel
theorem dX10_follows_1 : decode cX10_follows 1 = .ok (.iconst 2, 1) := by decide +kernel
theorem dX10_follows_2 : decode cX10_follows 2 = .ok (.iload_n 1, 1) := by decide +kernel
theorem dX10_follows_3 : decode cX10_follows 3 = .ok (.invokevirtual 237, 3) := by decide +kernel
theorem dX10_follows_6 : decode cX10_follows 6 = .ok (.ifCond .eq 9, 3) := by decide +kernel
theorem dX10_follows_9 : decode cX10_follows 9 = .ok (.aload_n 0, 1) := by decide +kernel
theorem dX10_follows_10 : decode cX10_follows 10 = .ok (.iconst 2, 1) := by decide +kernel
theorem dX10_follows_11 : decode cX10_follows 11 = .ok (.invokevirtual 133, 3) := by decide +kernel
theorem dX10_follows_14 : decode cX10_follows 14 = .ok (.ireturn, 1) := by decide +kernel
theorem dX10_follows_15 : decode cX10_follows 15 = .ok (.iload_n 2, 1) := by decide +kernel
theorem dX10_follows_16 : decode cX10_follows 16 = .ok (.i2l, 1) := by decide +kernel
theorem dX10_follows_17 : decode cX10_follows 17 = .ok (.invokestatic 259, 3) := by decide +kernel
theorem dX10_follows_20 : decode cX10_follows 20 = .ok (.ifCond .eq 9, 3) := by decide +kernel
theorem dX10_follows_23 : decode cX10_follows 23 = .ok (.aload_n 0, 1) := by decide +kernel
theorem dX10_follows_24 : decode cX10_follows 24 = .ok (.iconst 5, 1) := by decide +kernel
theorem dX10_follows_25 : decode cX10_follows 25 = .ok (.invokevirtual 133, 3) := by decide +kernel
theorem dX10_follows_28 : decode cX10_follows 28 = .ok (.ireturn, 1) := by decide +kernel
theorem dX10_follows_29 : decode cX10_follows 29 = .ok (.aload_n 0, 1) := by decide +kernel
theorem dX10_follows_30 : decode cX10_follows 30 = .ok (.aload_n 0, 1) := by decide +kernel
theorem dX10_follows_31 : decode cX10_follows 31 = .ok (.getfield 19, 3) := by decide +kernel
theorem dX10_follows_34 : decode cX10_follows 34 = .ok (.getfield 175, 3) := by decide +kernel
theorem dX10_follows_37 : decode cX10_follows 37 = .ok (.iload_n 1, 1) := by decide +kernel
theorem dX10_follows_38 : decode cX10_follows 38 = .ok (.iload_n 2, 1) := by decide +kernel
theorem dX10_follows_39 : decode cX10_follows 39 = .ok (.invokevirtual 263, 3) := by decide +kernel
theorem dX10_follows_42 : decode cX10_follows 42 = .ok (.invokevirtual 197, 3) := by decide +kernel
theorem dX10_follows_45 : decode cX10_follows 45 = .ok (.ireturn, 1) := by decide +kernel
theorem dX10_grows_0 : decode cX10_grows 0 = .ok (.aload_n 0, 1) := by decide +kernel
theorem dX10_grows_1 : decode cX10_grows 1 = .ok (.iconst 3, 1) := by decide +kernel
theorem dX10_grows_2 : decode cX10_grows 2 = .ok (.iload_n 1, 1) := by decide +kernel
theorem dX10_grows_3 : decode cX10_grows 3 = .ok (.invokevirtual 237, 3) := by decide +kernel
theorem dX10_grows_6 : decode cX10_grows 6 = .ok (.ifCond .ne 12, 3) := by decide +kernel
theorem dX10_grows_9 : decode cX10_grows 9 = .ok (.aload_n 0, 1) := by decide +kernel
theorem dX10_grows_10 : decode cX10_grows 10 = .ok (.iconst 2, 1) := by decide +kernel
theorem dX10_grows_11 : decode cX10_grows 11 = .ok (.iload_n 2, 1) := by decide +kernel
theorem dX10_grows_12 : decode cX10_grows 12 = .ok (.invokevirtual 237, 3) := by decide +kernel
theorem dX10_grows_15 : decode cX10_grows 15 = .ok (.ifCond .eq 9, 3) := by decide +kernel
theorem dX10_grows_18 : decode cX10_grows 18 = .ok (.aload_n 0, 1) := by decide +kernel
theorem dX10_grows_19 : decode cX10_grows 19 = .ok (.iconst 2, 1) := by decide +kernel
theorem dX10_grows_20 : decode cX10_grows 20 = .ok (.invokevirtual 133, 3) := by decide +kernel
theorem dX10_grows_23 : decode cX10_grows 23 = .ok (.ireturn, 1) := by decide +kernel
theorem dX10_grows_24 : decode cX10_grows 24 = .ok (.aload_n 0, 1) := by decide +kernel
theorem dX10_grows_25 : decode cX10_grows 25 = .ok (.aload_n 0, 1) := by decide +kernel
theorem dX10_grows_26 : decode cX10_grows 26 = .ok (.getfield 19, 3) := by decide +kernel
theorem dX10_grows_29 : decode cX10_grows 29 = .ok (.getfield 175, 3) := by decide +kernel
theorem dX10_grows_32 : decode cX10_grows 32 = .ok (.iload_n 1, 1) := by decide +kernel
theorem dX10_grows_33 : decode cX10_grows 33 = .ok (.iload_n 2, 1) := by decide +kernel
theorem dX10_grows_34 : decode cX10_grows 34 = .ok (.invokevirtual 266, 3) := by decide +kernel
theorem dX10_grows_37 : decode cX10_grows 37 = .ok (.invokevirtual 197, 3) := by decide +kernel
theorem dX10_grows_40 : decode cX10_grows 40 = .ok (.ireturn, 1) := by decide +kernel
theorem dX10_crop_0 : decode cX10_crop 0 = .ok (.aload_n 0, 1) := by decide +kernel
theorem dX10_crop_1 : decode cX10_crop 1 = .ok (.iconst 3, 1) := by decide +kernel
theorem dX10_crop_2 : decode cX10_crop 2 = .ok (.iload_n 1, 1) := by decide +kernel
theorem dX10_crop_3 : decode cX10_crop 3 = .ok (.invokevirtual 237, 3) := by decide +kernel
theorem dX10_crop_6 : decode cX10_crop 6 = .ok (.ifCond .eq 9, 3) := by decide +kernel
theorem dX10_crop_9 : decode cX10_crop 9 = .ok (.aload_n 0, 1) := by decide +kernel
theorem dX10_crop_10 : decode cX10_crop 10 = .ok (.iconst 2, 1) := by decide +kernel
theorem dX10_crop_11 : decode cX10_crop 11 = .ok (.invokevirtual 133, 3) := by decide +kernel
theorem dX10_crop_14 : decode cX10_crop 14 = .ok (.ireturn, 1) := by decide +kernel
theorem dX10_crop_15 : decode cX10_crop 15 = .ok (.aload_n 0, 1) := by decide +kernel
theorem dX10_crop_16 : decode cX10_crop 16 = .ok (.aload_n 0, 1) := by decide +kernel
theorem dX10_crop_17 : decode cX10_crop 17 = .ok (.getfield 19, 3) := by decide +kernel
theorem dX10_crop_20 : decode cX10_crop 20 = .ok (.getfield 182, 3) := by decide +kernel
theorem dX10_crop_23 : decode cX10_crop 23 = .ok (.getfield 269, 3) := by decide +kernel
theorem dX10_crop_26 : decode cX10_crop 26 = .ok (.iload_n 1, 1) := by decide +kernel
theorem dX10_crop_27 : decode cX10_crop 27 = .ok (.iaload, 1) := by decide +kernel
theorem dX10_crop_28 : decode cX10_crop 28 = .ok (.invokevirtual 197, 3) := by decide +kernel
theorem dX10_crop_31 : decode cX10_crop 31 = .ok (.ireturn, 1) := by decide +kernel
theorem dX10_copyLeanings_0 : decode cX10_copyLeanings 0 = .ok (.aload_n 0, 1) := by decide +kernel
theorem dX10_copyLeanings_1 : decode cX10_copyLeanings 1 = .ok (.getfield 19, 3) := by decide +kernel
theorem dX10_copyLeanings_4 : decode cX10_copyLeanings 4 = .ok (.getfield 175, 3) := by decide +kernel
theorem dX10_copyLeanings_7 : decode cX10_copyLeanings 7 = .ok (.getfield 194, 3) := by decide +kernel
theorem dX10_copyLeanings_10 : decode cX10_copyLeanings 10 = .ok (.iconst 0, 1) := by decide +kernel
theorem dX10_copyLeanings_11 : decode cX10_copyLeanings 11 = .ok (.iaload, 1) := by decide +kernel
theorem dX10_copyLeanings_12 : decode cX10_copyLeanings 12 = .ok (.istore_n 2, 1) := by decide +kernel
theorem dX10_copyLeanings_13 : decode cX10_copyLeanings 13 = .ok (.aload_n 0, 1) := by decide +kernel
theorem dX10_copyLeanings_14 : decode cX10_copyLeanings 14 = .ok (.iload_n 1, 1) := by decide +kernel
theorem dX10_copyLeanings_15 : decode cX10_copyLeanings 15 = .ok (.iload_n 2, 1) := by decide +kernel
theorem dX10_copyLeanings_16 : decode cX10_copyLeanings 16 = .ok (.invokevirtual 272, 3) := by decide +kernel
theorem dX10_copyLeanings_19 : decode cX10_copyLeanings 19 = .ok (.istore_n 3, 1) := by decide +kernel
theorem dX10_copyLeanings_20 : decode cX10_copyLeanings 20 = .ok (.iload_n 3, 1) := by decide +kernel
theorem dX10_copyLeanings_21 : decode cX10_copyLeanings 21 = .ok (.ifCond .eq 9, 3) := by decide +kernel
theorem dX10_copyLeanings_24 : decode cX10_copyLeanings 24 = .ok (.aload_n 0, 1) := by decide +kernel
theorem dX10_copyLeanings_25 : decode cX10_copyLeanings 25 = .ok (.iload_n 3, 1) := by decide +kernel
theorem dX10_copyLeanings_26 : decode cX10_copyLeanings 26 = .ok (.invokevirtual 133, 3) := by decide +kernel
theorem dX10_copyLeanings_29 : decode cX10_copyLeanings 29 = .ok (.ireturn, 1) := by decide +kernel
theorem dX10_copyLeanings_30 : decode cX10_copyLeanings 30 = .ok (.iconst 0, 1) := by decide +kernel
theorem dX10_copyLeanings_31 : decode cX10_copyLeanings 31 = .ok (.istore 4, 2) := by decide +kernel
theorem dX10_copyLeanings_33 : decode cX10_copyLeanings 33 = .ok (.iload 4, 2) := by decide +kernel
theorem dX10_copyLeanings_35 : decode cX10_copyLeanings 35 = .ok (.iload_n 2, 1) := by decide +kernel
theorem dX10_copyLeanings_36 : decode cX10_copyLeanings 36 = .ok (.if_icmp .ge 33, 3) := by decide +kernel
theorem dX10_copyLeanings_39 : decode cX10_copyLeanings 39 = .ok (.aload_n 0, 1) := by decide +kernel
theorem dX10_copyLeanings_40 : decode cX10_copyLeanings 40 = .ok (.getfield 10, 3) := by decide +kernel
theorem dX10_copyLeanings_43 : decode cX10_copyLeanings 43 = .ok (.iload_n 1, 1) := by decide +kernel
theorem dX10_copyLeanings_44 : decode cX10_copyLeanings 44 = .ok (.iload 4, 2) := by decide +kernel
theorem dX10_copyLeanings_46 : decode cX10_copyLeanings 46 = .ok (.aload_n 0, 1) := by decide +kernel
theorem dX10_copyLeanings_47 : decode cX10_copyLeanings 47 = .ok (.getfield 19, 3) := by decide +kernel
theorem dX10_copyLeanings_50 : decode cX10_copyLeanings 50 = .ok (.getfield 182, 3) := by decide +kernel
theorem dX10_copyLeanings_53 : decode cX10_copyLeanings 53 = .ok (.getfield 241, 3) := by decide +kernel
theorem dX10_copyLeanings_56 : decode cX10_copyLeanings 56 = .ok (.iload 4, 2) := by decide +kernel
theorem dX10_copyLeanings_58 : decode cX10_copyLeanings 58 = .ok (.iaload, 1) := by decide +kernel
theorem dX10_copyLeanings_59 : decode cX10_copyLeanings 59 = .ok (.i2l, 1) := by decide +kernel
theorem dX10_copyLeanings_60 : decode cX10_copyLeanings 60 = .ok (.invokevirtual 129, 3) := by decide +kernel
theorem dX10_copyLeanings_63 : decode cX10_copyLeanings 63 = .ok (.iinc 4 1, 3) := by decide +kernel
theorem dX10_copyLeanings_66 : decode cX10_copyLeanings 66 = .ok (.goto (-33), 3) := by decide +kernel
theorem dX10_copyLeanings_69 : decode cX10_copyLeanings 69 = .ok (.aload_n 0, 1) := by decide +kernel
theorem dX10_copyLeanings_70 : decode cX10_copyLeanings 70 = .ok (.iload_n 2, 1) := by decide +kernel
theorem dX10_copyLeanings_71 : decode cX10_copyLeanings 71 = .ok (.invokevirtual 197, 3) := by decide +kernel
theorem dX10_copyLeanings_74 : decode cX10_copyLeanings 74 = .ok (.ireturn, 1) := by decide +kernel
theorem dX10_show_0 : decode cX10_show 0 = .ok (.aload_n 0, 1) := by decide +kernel
theorem dX10_show_1 : decode cX10_show 1 = .ok (.iconst 1, 1) := by decide +kernel
theorem dX10_show_2 : decode cX10_show 2 = .ok (.iload_n 1, 1) := by decide +kernel
theorem dX10_show_3 : decode cX10_show 3 = .ok (.invokevirtual 237, 3) := by decide +kernel
theorem dX10_show_6 : decode cX10_show 6 = .ok (.ifCond .eq 9, 3) := by decide +kernel
theorem dX10_show_9 : decode cX10_show 9 = .ok (.aload_n 0, 1) := by decide +kernel
theorem dX10_show_10 : decode cX10_show 10 = .ok (.iconst 2, 1) := by decide +kernel
theorem dX10_show_11 : decode cX10_show 11 = .ok (.invokevirtual 133, 3) := by decide +kernel
theorem dX10_show_14 : decode cX10_show 14 = .ok (.ireturn, 1) := by decide +kernel
theorem dX10_show_15 : decode cX10_show 15 = .ok (.aload_n 0, 1) := by decide +kernel
theorem dX10_show_16 : decode cX10_show 16 = .ok (.getfield 19, 3) := by decide +kernel
theorem dX10_show_19 : decode cX10_show 19 = .ok (.getfield 182, 3) := by decide +kernel
theorem dX10_show_22 : decode cX10_show 22 = .ok (.iload_n 1, 1) := by decide +kernel
theorem dX10_show_23 : decode cX10_show 23 = .ok (.invokevirtual 275, 3) := by decide +kernel
theorem dX10_show_26 : decode cX10_show 26 = .ok (.ifCond .eq 10, 3) := by decide +kernel
theorem dX10_show_29 : decode cX10_show 29 = .ok (.aload_n 0, 1) := by decide +kernel
theorem dX10_show_30 : decode cX10_show 30 = .ok (.bipush 9, 2) := by decide +kernel
theorem dX10_show_32 : decode cX10_show 32 = .ok (.invokevirtual 133, 3) := by decide +kernel
theorem dX10_show_35 : decode cX10_show 35 = .ok (.ireturn, 1) := by decide +kernel
theorem dX10_show_36 : decode cX10_show 36 = .ok (.aload_n 0, 1) := by decide +kernel
theorem dX10_show_37 : decode cX10_show 37 = .ok (.aload_n 0, 1) := by decide +kernel
theorem dX10_show_38 : decode cX10_show 38 = .ok (.getfield 19, 3) := by decide +kernel
theorem dX10_show_41 : decode cX10_show 41 = .ok (.getfield 182, 3) := by decide +kernel
theorem dX10_show_44 : decode cX10_show 44 = .ok (.aload_n 0, 1) := by decide +kernel
theorem dX10_show_45 : decode cX10_show 45 = .ok (.getfield 19, 3) := by decide +kernel
theorem dX10_show_48 : decode cX10_show 48 = .ok (.getfield 175, 3) := by decide +kernel
theorem dX10_show_51 : decode cX10_show 51 = .ok (.iload_n 1, 1) := by decide +kernel
theorem dX10_show_52 : decode cX10_show 52 = .ok (.invokevirtual 278, 3) := by decide +kernel
theorem dX10_show_55 : decode cX10_show 55 = .ok (.invokevirtual 197, 3) := by decide +kernel
theorem dX10_show_58 : decode cX10_show 58 = .ok (.ireturn, 1) := by decide +kernel
theorem dX10_talk_0 : decode cX10_talk 0 = .ok (.iload_n 1, 1) := by decide +kernel
theorem dX10_talk_1 : decode cX10_talk 1 = .ok (.iconst 1, 1) := by decide +kernel
theorem dX10_talk_2 : decode cX10_talk 2 = .ok (.if_icmp .lt 9, 3) := by decide +kernel
theorem dX10_talk_5 : decode cX10_talk 5 = .ok (.iload_n 1, 1) := by decide +kernel
theorem dX10_talk_6 : decode cX10_talk 6 = .ok (.bipush 99, 2) := by decide +kernel
theorem dX10_talk_8 : decode cX10_talk 8 = .ok (.if_icmp .le 9, 3) := by decide +kernel
theorem dX10_talk_11 : decode cX10_talk 11 = .ok (.aload_n 0, 1) := by decide +kernel
theorem dX10_talk_12 : decode cX10_talk 12 = .ok (.iconst 5, 1) := by decide +kernel
theorem dX10_talk_13 : decode cX10_talk 13 = .ok (.invokevirtual 133, 3) := by decide +kernel
theorem dX10_talk_16 : decode cX10_talk 16 = .ok (.ireturn, 1) := by decide +kernel
theorem dX10_talk_17 : decode cX10_talk 17 = .ok (.aload_n 0, 1) := by decide +kernel
theorem dX10_talk_18 : decode cX10_talk 18 = .ok (.getfield 19, 3) := by decide +kernel
theorem dX10_talk_21 : decode cX10_talk 21 = .ok (.getfield 182, 3) := by decide +kernel
theorem dX10_talk_24 : decode cX10_talk 24 = .ok (.getfield 219, 3) := by decide +kernel
theorem dX10_talk_27 : decode cX10_talk 27 = .ok (.iload_n 1, 1) := by decide +kernel
theorem dX10_talk_28 : decode cX10_talk 28 = .ok (.iadd, 1) := by decide +kernel
theorem dX10_talk_29 : decode cX10_talk 29 = .ok (.sipush 9999, 3) := by decide +kernel
theorem dX10_talk_32 : decode cX10_talk 32 = .ok (.if_icmp .le 10, 3) := by decide +kernel
theorem dX10_talk_35 : decode cX10_talk 35 = .ok (.aload_n 0, 1) := by decide +kernel
theorem dX10_talk_36 : decode cX10_talk 36 = .ok (.bipush 7, 2) := by decide +kernel
theorem dX10_talk_38 : decode cX10_talk 38 = .ok (.invokevirtual 133, 3) := by decide +kernel
theorem dX10_talk_41 : decode cX10_talk 41 = .ok (.ireturn, 1) := by decide +kernel
theorem dX10_talk_42 : decode cX10_talk 42 = .ok (.aload_n 0, 1) := by decide +kernel
theorem dX10_talk_43 : decode cX10_talk 43 = .ok (.getfield 19, 3) := by decide +kernel
theorem dX10_talk_46 : decode cX10_talk 46 = .ok (.getfield 182, 3) := by decide +kernel
theorem dX10_talk_49 : decode cX10_talk 49 = .ok (.aload_n 0, 1) := by decide +kernel
theorem dX10_talk_50 : decode cX10_talk 50 = .ok (.getfield 19, 3) := by decide +kernel
theorem dX10_talk_53 : decode cX10_talk 53 = .ok (.getfield 175, 3) := by decide +kernel
theorem dX10_talk_56 : decode cX10_talk 56 = .ok (.iload_n 1, 1) := by decide +kernel
theorem dX10_talk_57 : decode cX10_talk 57 = .ok (.invokevirtual 282, 3) := by decide +kernel
theorem dX10_talk_60 : decode cX10_talk 60 = .ok (.aload_n 0, 1) := by decide +kernel
theorem dX10_talk_61 : decode cX10_talk 61 = .ok (.aload_n 0, 1) := by decide +kernel
theorem dX10_talk_62 : decode cX10_talk 62 = .ok (.getfield 19, 3) := by decide +kernel
theorem dX10_talk_65 : decode cX10_talk 65 = .ok (.getfield 182, 3) := by decide +kernel
theorem dX10_talk_68 : decode cX10_talk 68 = .ok (.aload_n 0, 1) := by decide +kernel
theorem dX10_talk_69 : decode cX10_talk 69 = .ok (.getfield 19, 3) := by decide +kernel
theorem dX10_talk_72 : decode cX10_talk 72 = .ok (.getfield 175, 3) := by decide +kernel
theorem dX10_talk_75 : decode cX10_talk 75 = .ok (.getfield 213, 3) := by decide +kernel
theorem dX10_talk_78 : decode cX10_talk 78 = .ok (.invokevirtual 286, 3) := by decide +kernel
theorem dX10_talk_81 : decode cX10_talk 81 = .ok (.invokevirtual 197, 3) := by decide +kernel
theorem dX10_talk_84 : decode cX10_talk 84 = .ok (.ireturn, 1) := by decide +kernel
theorem dX10_endDay_0 : decode cX10_endDay 0 = .ok (.aload_n 0, 1) := by decide +kernel
theorem dX10_endDay_1 : decode cX10_endDay 1 = .ok (.getfield 19, 3) := by decide +kernel
theorem dX10_endDay_4 : decode cX10_endDay 4 = .ok (.getfield 182, 3) := by decide +kernel
theorem dX10_endDay_7 : decode cX10_endDay 7 = .ok (.getfield 216, 3) := by decide +kernel
theorem dX10_endDay_10 : decode cX10_endDay 10 = .ok (.sipush 9999, 3) := by decide +kernel
theorem dX10_endDay_13 : decode cX10_endDay 13 = .ok (.if_icmp .lt 10, 3) := by decide +kernel
theorem dX10_endDay_16 : decode cX10_endDay 16 = .ok (.aload_n 0, 1) := by decide +kernel
theorem dX10_endDay_17 : decode cX10_endDay 17 = .ok (.bipush 7, 2) := by decide +kernel
theorem dX10_endDay_19 : decode cX10_endDay 19 = .ok (.invokevirtual 133, 3) := by decide +kernel
theorem dX10_endDay_22 : decode cX10_endDay 22 = .ok (.ireturn, 1) := by decide +kernel
theorem dX10_endDay_23 : decode cX10_endDay 23 = .ok (.aload_n 0, 1) := by decide +kernel
theorem dX10_endDay_24 : decode cX10_endDay 24 = .ok (.aload_n 0, 1) := by decide +kernel
theorem dX10_endDay_25 : decode cX10_endDay 25 = .ok (.getfield 19, 3) := by decide +kernel
theorem dX10_endDay_28 : decode cX10_endDay 28 = .ok (.getfield 182, 3) := by decide +kernel
theorem dX10_endDay_31 : decode cX10_endDay 31 = .ok (.aload_n 0, 1) := by decide +kernel
theorem dX10_endDay_32 : decode cX10_endDay 32 = .ok (.getfield 19, 3) := by decide +kernel
theorem dX10_endDay_35 : decode cX10_endDay 35 = .ok (.getfield 175, 3) := by decide +kernel
theorem dX10_endDay_38 : decode cX10_endDay 38 = .ok (.invokevirtual 289, 3) := by decide +kernel
theorem dX10_endDay_41 : decode cX10_endDay 41 = .ok (.invokevirtual 197, 3) := by decide +kernel
theorem dX10_endDay_44 : decode cX10_endDay 44 = .ok (.ireturn, 1) := by decide +kernel
theorem dX10_strike_0 : decode cX10_strike 0 = .ok (.aload_n 0, 1) := by decide +kernel
theorem dX10_strike_1 : decode cX10_strike 1 = .ok (.iconst 0, 1) := by decide +kernel
theorem dX10_strike_2 : decode cX10_strike 2 = .ok (.iload_n 1, 1) := by decide +kernel
theorem dX10_strike_3 : decode cX10_strike 3 = .ok (.invokevirtual 237, 3) := by decide +kernel
theorem dX10_strike_6 : decode cX10_strike 6 = .ok (.ifCond .eq 9, 3) := by decide +kernel
theorem dX10_strike_9 : decode cX10_strike 9 = .ok (.aload_n 0, 1) := by decide +kernel
theorem dX10_strike_10 : decode cX10_strike 10 = .ok (.iconst 2, 1) := by decide +kernel
theorem dX10_strike_11 : decode cX10_strike 11 = .ok (.invokevirtual 114, 3) := by decide +kernel
theorem dX10_strike_14 : decode cX10_strike 14 = .ok (.ireturn, 1) := by decide +kernel
theorem dX10_strike_15 : decode cX10_strike 15 = .ok (.aload_n 0, 1) := by decide +kernel
theorem dX10_strike_16 : decode cX10_strike 16 = .ok (.getfield 19, 3) := by decide +kernel
theorem dX10_strike_19 : decode cX10_strike 19 = .ok (.getfield 182, 3) := by decide +kernel
theorem dX10_strike_22 : decode cX10_strike 22 = .ok (.iload_n 1, 1) := by decide +kernel
theorem dX10_strike_23 : decode cX10_strike 23 = .ok (.invokevirtual 293, 3) := by decide +kernel
theorem dX10_strike_26 : decode cX10_strike 26 = .ok (.ifCond .ne 10, 3) := by decide +kernel
theorem dX10_strike_29 : decode cX10_strike 29 = .ok (.aload_n 0, 1) := by decide +kernel
theorem dX10_strike_30 : decode cX10_strike 30 = .ok (.bipush 9, 2) := by decide +kernel
theorem dX10_strike_32 : decode cX10_strike 32 = .ok (.invokevirtual 114, 3) := by decide +kernel
theorem dX10_strike_35 : decode cX10_strike 35 = .ok (.ireturn, 1) := by decide +kernel
theorem dX10_strike_36 : decode cX10_strike 36 = .ok (.aload_n 0, 1) := by decide +kernel
theorem dX10_strike_37 : decode cX10_strike 37 = .ok (.getfield 19, 3) := by decide +kernel
theorem dX10_strike_40 : decode cX10_strike 40 = .ok (.getfield 182, 3) := by decide +kernel
theorem dX10_strike_43 : decode cX10_strike 43 = .ok (.iload_n 1, 1) := by decide +kernel
theorem dX10_strike_44 : decode cX10_strike 44 = .ok (.invokevirtual 296, 3) := by decide +kernel
theorem dX10_strike_47 : decode cX10_strike 47 = .ok (.aload_n 0, 1) := by decide +kernel
theorem dX10_strike_48 : decode cX10_strike 48 = .ok (.invokevirtual 121, 3) := by decide +kernel
theorem dX10_strike_51 : decode cX10_strike 51 = .ok (.ireturn, 1) := by decide +kernel
theorem dX10_seat_0 : decode cX10_seat 0 = .ok (.aload_n 0, 1) := by decide +kernel
theorem dX10_seat_1 : decode cX10_seat 1 = .ok (.iconst 0, 1) := by decide +kernel
theorem dX10_seat_2 : decode cX10_seat 2 = .ok (.iload_n 1, 1) := by decide +kernel
theorem dX10_seat_3 : decode cX10_seat 3 = .ok (.invokevirtual 237, 3) := by decide +kernel
theorem dX10_seat_6 : decode cX10_seat 6 = .ok (.ifCond .eq 9, 3) := by decide +kernel
theorem dX10_seat_9 : decode cX10_seat 9 = .ok (.aload_n 0, 1) := by decide +kernel
theorem dX10_seat_10 : decode cX10_seat 10 = .ok (.iconst 2, 1) := by decide +kernel
theorem dX10_seat_11 : decode cX10_seat 11 = .ok (.invokevirtual 114, 3) := by decide +kernel
theorem dX10_seat_14 : decode cX10_seat 14 = .ok (.ireturn, 1) := by decide +kernel
theorem dX10_seat_15 : decode cX10_seat 15 = .ok (.aload_n 0, 1) := by decide +kernel
theorem dX10_seat_16 : decode cX10_seat 16 = .ok (.getfield 19, 3) := by decide +kernel
theorem dX10_seat_19 : decode cX10_seat 19 = .ok (.getfield 182, 3) := by decide +kernel
theorem dX10_seat_22 : decode cX10_seat 22 = .ok (.iload_n 1, 1) := by decide +kernel
theorem dX10_seat_23 : decode cX10_seat 23 = .ok (.invokevirtual 293, 3) := by decide +kernel
theorem dX10_seat_26 : decode cX10_seat 26 = .ok (.ifCond .eq 10, 3) := by decide +kernel
theorem dX10_seat_29 : decode cX10_seat 29 = .ok (.aload_n 0, 1) := by decide +kernel
theorem dX10_seat_30 : decode cX10_seat 30 = .ok (.bipush 9, 2) := by decide +kernel
theorem dX10_seat_32 : decode cX10_seat 32 = .ok (.invokevirtual 114, 3) := by decide +kernel
theorem dX10_seat_35 : decode cX10_seat 35 = .ok (.ireturn, 1) := by decide +kernel
theorem dX10_seat_36 : decode cX10_seat 36 = .ok (.aload_n 0, 1) := by decide +kernel
theorem dX10_seat_37 : decode cX10_seat 37 = .ok (.getfield 19, 3) := by decide +kernel
theorem dX10_seat_40 : decode cX10_seat 40 = .ok (.getfield 182, 3) := by decide +kernel
theorem dX10_seat_43 : decode cX10_seat 43 = .ok (.iload_n 1, 1) := by decide +kernel
theorem dX10_seat_44 : decode cX10_seat 44 = .ok (.invokevirtual 299, 3) := by decide +kernel
theorem dX10_seat_47 : decode cX10_seat 47 = .ok (.aload_n 0, 1) := by decide +kernel
theorem dX10_seat_48 : decode cX10_seat 48 = .ok (.invokevirtual 121, 3) := by decide +kernel
theorem dX10_seat_51 : decode cX10_seat 51 = .ok (.ireturn, 1) := by decide +kernel
theorem dX10_bribe_0 : decode cX10_bribe 0 = .ok (.aload_n 0, 1) := by decide +kernel
theorem dX10_bribe_1 : decode cX10_bribe 1 = .ok (.iconst 0, 1) := by decide +kernel
theorem dX10_bribe_2 : decode cX10_bribe 2 = .ok (.iload_n 1, 1) := by decide +kernel
theorem dX10_bribe_3 : decode cX10_bribe 3 = .ok (.invokevirtual 237, 3) := by decide +kernel
theorem dX10_bribe_6 : decode cX10_bribe 6 = .ok (.ifCond .eq 9, 3) := by decide +kernel
theorem dX10_bribe_9 : decode cX10_bribe 9 = .ok (.aload_n 0, 1) := by decide +kernel
theorem dX10_bribe_10 : decode cX10_bribe 10 = .ok (.iconst 2, 1) := by decide +kernel
theorem dX10_bribe_11 : decode cX10_bribe 11 = .ok (.invokevirtual 133, 3) := by decide +kernel
theorem dX10_bribe_14 : decode cX10_bribe 14 = .ok (.ireturn, 1) := by decide +kernel
theorem dX10_bribe_15 : decode cX10_bribe 15 = .ok (.iload_n 2, 1) := by decide +kernel
theorem dX10_bribe_16 : decode cX10_bribe 16 = .ok (.invokestatic 302, 3) := by decide +kernel
theorem dX10_bribe_19 : decode cX10_bribe 19 = .ok (.ifCond .eq 9, 3) := by decide +kernel
theorem dX10_bribe_22 : decode cX10_bribe 22 = .ok (.aload_n 0, 1) := by decide +kernel
theorem dX10_bribe_23 : decode cX10_bribe 23 = .ok (.iconst 5, 1) := by decide +kernel
theorem dX10_bribe_24 : decode cX10_bribe 24 = .ok (.invokevirtual 133, 3) := by decide +kernel
theorem dX10_bribe_27 : decode cX10_bribe 27 = .ok (.ireturn, 1) := by decide +kernel
theorem dX10_bribe_28 : decode cX10_bribe 28 = .ok (.aload_n 0, 1) := by decide +kernel
theorem dX10_bribe_29 : decode cX10_bribe 29 = .ok (.getfield 19, 3) := by decide +kernel
theorem dX10_bribe_32 : decode cX10_bribe 32 = .ok (.getfield 182, 3) := by decide +kernel
theorem dX10_bribe_35 : decode cX10_bribe 35 = .ok (.aload_n 0, 1) := by decide +kernel
theorem dX10_bribe_36 : decode cX10_bribe 36 = .ok (.getfield 19, 3) := by decide +kernel
theorem dX10_bribe_39 : decode cX10_bribe 39 = .ok (.getfield 175, 3) := by decide +kernel
theorem dX10_bribe_42 : decode cX10_bribe 42 = .ok (.iload_n 1, 1) := by decide +kernel
theorem dX10_bribe_43 : decode cX10_bribe 43 = .ok (.invokevirtual 305, 3) := by decide +kernel
theorem dX10_bribe_46 : decode cX10_bribe 46 = .ok (.ifCond .ne 10, 3) := by decide +kernel
theorem dX10_bribe_49 : decode cX10_bribe 49 = .ok (.aload_n 0, 1) := by decide +kernel
theorem dX10_bribe_50 : decode cX10_bribe 50 = .ok (.bipush 7, 2) := by decide +kernel
theorem dX10_bribe_52 : decode cX10_bribe 52 = .ok (.invokevirtual 133, 3) := by decide +kernel
theorem dX10_bribe_55 : decode cX10_bribe 55 = .ok (.ireturn, 1) := by decide +kernel
theorem dX10_bribe_56 : decode cX10_bribe 56 = .ok (.aload_n 0, 1) := by decide +kernel
theorem dX10_bribe_57 : decode cX10_bribe 57 = .ok (.getfield 19, 3) := by decide +kernel
theorem dX10_bribe_60 : decode cX10_bribe 60 = .ok (.getfield 182, 3) := by decide +kernel
theorem dX10_bribe_63 : decode cX10_bribe 63 = .ok (.iload_n 1, 1) := by decide +kernel
theorem dX10_bribe_64 : decode cX10_bribe 64 = .ok (.invokevirtual 293, 3) := by decide +kernel
theorem dX10_bribe_67 : decode cX10_bribe 67 = .ok (.ifCond .ne 10, 3) := by decide +kernel
theorem dX10_bribe_70 : decode cX10_bribe 70 = .ok (.aload_n 0, 1) := by decide +kernel
theorem dX10_bribe_71 : decode cX10_bribe 71 = .ok (.bipush 9, 2) := by decide +kernel
theorem dX10_bribe_73 : decode cX10_bribe 73 = .ok (.invokevirtual 133, 3) := by decide +kernel
theorem dX10_bribe_76 : decode cX10_bribe 76 = .ok (.ireturn, 1) := by decide +kernel
theorem dX10_bribe_77 : decode cX10_bribe 77 = .ok (.aload_n 0, 1) := by decide +kernel
theorem dX10_bribe_78 : decode cX10_bribe 78 = .ok (.getfield 19, 3) := by decide +kernel
theorem dX10_bribe_81 : decode cX10_bribe 81 = .ok (.getfield 182, 3) := by decide +kernel
theorem dX10_bribe_84 : decode cX10_bribe 84 = .ok (.aload_n 0, 1) := by decide +kernel
theorem dX10_bribe_85 : decode cX10_bribe 85 = .ok (.getfield 19, 3) := by decide +kernel
theorem dX10_bribe_88 : decode cX10_bribe 88 = .ok (.getfield 175, 3) := by decide +kernel
theorem dX10_bribe_91 : decode cX10_bribe 91 = .ok (.iload_n 1, 1) := by decide +kernel
theorem dX10_bribe_92 : decode cX10_bribe 92 = .ok (.iload_n 2, 1) := by decide +kernel
theorem dX10_bribe_93 : decode cX10_bribe 93 = .ok (.invokevirtual 309, 3) := by decide +kernel
theorem dX10_bribe_96 : decode cX10_bribe 96 = .ok (.aload_n 0, 1) := by decide +kernel
theorem dX10_bribe_97 : decode cX10_bribe 97 = .ok (.aload_n 0, 1) := by decide +kernel
theorem dX10_bribe_98 : decode cX10_bribe 98 = .ok (.getfield 19, 3) := by decide +kernel
theorem dX10_bribe_101 : decode cX10_bribe 101 = .ok (.getfield 182, 3) := by decide +kernel
theorem dX10_bribe_104 : decode cX10_bribe 104 = .ok (.getfield 228, 3) := by decide +kernel
theorem dX10_bribe_107 : decode cX10_bribe 107 = .ok (.invokevirtual 197, 3) := by decide +kernel
theorem dX10_bribe_110 : decode cX10_bribe 110 = .ok (.ireturn, 1) := by decide +kernel
theorem dX10_lean_0 : decode cX10_lean 0 = .ok (.aload_n 0, 1) := by decide +kernel
theorem dX10_lean_1 : decode cX10_lean 1 = .ok (.iconst 0, 1) := by decide +kernel
theorem dX10_lean_2 : decode cX10_lean 2 = .ok (.iload_n 1, 1) := by decide +kernel
theorem dX10_lean_3 : decode cX10_lean 3 = .ok (.invokevirtual 237, 3) := by decide +kernel
theorem dX10_lean_6 : decode cX10_lean 6 = .ok (.ifCond .eq 9, 3) := by decide +kernel
theorem dX10_lean_9 : decode cX10_lean 9 = .ok (.aload_n 0, 1) := by decide +kernel
theorem dX10_lean_10 : decode cX10_lean 10 = .ok (.iconst 2, 1) := by decide +kernel
theorem dX10_lean_11 : decode cX10_lean 11 = .ok (.invokevirtual 114, 3) := by decide +kernel
theorem dX10_lean_14 : decode cX10_lean 14 = .ok (.ireturn, 1) := by decide +kernel
theorem dX10_lean_15 : decode cX10_lean 15 = .ok (.iload_n 2, 1) := by decide +kernel
theorem dX10_lean_16 : decode cX10_lean 16 = .ok (.bipush (-99), 2) := by decide +kernel
theorem dX10_lean_18 : decode cX10_lean 18 = .ok (.if_icmp .lt 9, 3) := by decide +kernel
theorem dX10_lean_21 : decode cX10_lean 21 = .ok (.iload_n 2, 1) := by decide +kernel
theorem dX10_lean_22 : decode cX10_lean 22 = .ok (.bipush 99, 2) := by decide +kernel
theorem dX10_lean_24 : decode cX10_lean 24 = .ok (.if_icmp .le 9, 3) := by decide +kernel
theorem dX10_lean_27 : decode cX10_lean 27 = .ok (.aload_n 0, 1) := by decide +kernel
theorem dX10_lean_28 : decode cX10_lean 28 = .ok (.iconst 5, 1) := by decide +kernel
theorem dX10_lean_29 : decode cX10_lean 29 = .ok (.invokevirtual 114, 3) := by decide +kernel
theorem dX10_lean_32 : decode cX10_lean 32 = .ok (.ireturn, 1) := by decide +kernel
theorem dX10_lean_33 : decode cX10_lean 33 = .ok (.aload_n 0, 1) := by decide +kernel
theorem dX10_lean_34 : decode cX10_lean 34 = .ok (.getfield 19, 3) := by decide +kernel
theorem dX10_lean_37 : decode cX10_lean 37 = .ok (.getfield 182, 3) := by decide +kernel
theorem dX10_lean_40 : decode cX10_lean 40 = .ok (.getfield 241, 3) := by decide +kernel
theorem dX10_lean_43 : decode cX10_lean 43 = .ok (.iload_n 1, 1) := by decide +kernel
theorem dX10_lean_44 : decode cX10_lean 44 = .ok (.iload_n 2, 1) := by decide +kernel
theorem dX10_lean_45 : decode cX10_lean 45 = .ok (.iastore, 1) := by decide +kernel
theorem dX10_lean_46 : decode cX10_lean 46 = .ok (.aload_n 0, 1) := by decide +kernel
theorem dX10_lean_47 : decode cX10_lean 47 = .ok (.invokevirtual 121, 3) := by decide +kernel
theorem dX10_lean_50 : decode cX10_lean 50 = .ok (.ireturn, 1) := by decide +kernel
theorem dX10_votes_0 : decode cX10_votes 0 = .ok (.iload_n 1, 1) := by decide +kernel
theorem dX10_votes_1 : decode cX10_votes 1 = .ok (.ifCond .lt 8, 3) := by decide +kernel
theorem dX10_votes_4 : decode cX10_votes 4 = .ok (.iload_n 1, 1) := by decide +kernel
theorem dX10_votes_5 : decode cX10_votes 5 = .ok (.iconst 1, 1) := by decide +kernel
theorem dX10_votes_6 : decode cX10_votes 6 = .ok (.if_icmp .le 9, 3) := by decide +kernel
theorem dX10_votes_9 : decode cX10_votes 9 = .ok (.aload_n 0, 1) := by decide +kernel
theorem dX10_votes_10 : decode cX10_votes 10 = .ok (.iconst 5, 1) := by decide +kernel
theorem dX10_votes_11 : decode cX10_votes 11 = .ok (.invokevirtual 133, 3) := by decide +kernel
theorem dX10_votes_14 : decode cX10_votes 14 = .ok (.ireturn, 1) := by decide +kernel
theorem dX10_votes_15 : decode cX10_votes 15 = .ok (.aload_n 0, 1) := by decide +kernel
theorem dX10_votes_16 : decode cX10_votes 16 = .ok (.getfield 19, 3) := by decide +kernel
theorem dX10_votes_19 : decode cX10_votes 19 = .ok (.getfield 182, 3) := by decide +kernel
theorem dX10_votes_22 : decode cX10_votes 22 = .ok (.invokevirtual 313, 3) := by decide +kernel
theorem dX10_votes_25 : decode cX10_votes 25 = .ok (.istore_n 2, 1) := by decide +kernel
theorem dX10_votes_26 : decode cX10_votes 26 = .ok (.aload_n 0, 1) := by decide +kernel
theorem dX10_votes_27 : decode cX10_votes 27 = .ok (.iload_n 1, 1) := by decide +kernel
theorem dX10_votes_28 : decode cX10_votes 28 = .ok (.ifCond .ne 7, 3) := by decide +kernel
theorem dX10_votes_31 : decode cX10_votes 31 = .ok (.iload_n 2, 1) := by decide +kernel
theorem dX10_votes_32 : decode cX10_votes 32 = .ok (.goto 15, 3) := by decide +kernel
theorem dX10_votes_35 : decode cX10_votes 35 = .ok (.aload_n 0, 1) := by decide +kernel
theorem dX10_votes_36 : decode cX10_votes 36 = .ok (.getfield 19, 3) := by decide +kernel
theorem dX10_votes_39 : decode cX10_votes 39 = .ok (.getfield 182, 3) := by decide +kernel
theorem dX10_votes_42 : decode cX10_votes 42 = .ok (.invokevirtual 317, 3) := by decide +kernel
theorem dX10_votes_45 : decode cX10_votes 45 = .ok (.iload_n 2, 1) := by decide +kernel
theorem dX10_votes_46 : decode cX10_votes 46 = .ok (.isub, 1) := by decide +kernel
theorem dX10_votes_47 : decode cX10_votes 47 = .ok (.invokevirtual 197, 3) := by decide +kernel
theorem dX10_votes_50 : decode cX10_votes 50 = .ok (.ireturn, 1) := by decide +kernel
theorem dX10_verdict_0 : decode cX10_verdict 0 = .ok (.aload_n 0, 1) := by decide +kernel
theorem dX10_verdict_1 : decode cX10_verdict 1 = .ok (.aload_n 0, 1) := by decide +kernel
theorem dX10_verdict_2 : decode cX10_verdict 2 = .ok (.getfield 19, 3) := by decide +kernel
theorem dX10_verdict_5 : decode cX10_verdict 5 = .ok (.getfield 182, 3) := by decide +kernel
theorem dX10_verdict_8 : decode cX10_verdict 8 = .ok (.aload_n 0, 1) := by decide +kernel
theorem dX10_verdict_9 : decode cX10_verdict 9 = .ok (.getfield 19, 3) := by decide +kernel
theorem dX10_verdict_12 : decode cX10_verdict 12 = .ok (.getfield 175, 3) := by decide +kernel
theorem dX10_verdict_15 : decode cX10_verdict 15 = .ok (.getfield 213, 3) := by decide +kernel
theorem dX10_verdict_18 : decode cX10_verdict 18 = .ok (.invokevirtual 286, 3) := by decide +kernel
theorem dX10_verdict_21 : decode cX10_verdict 21 = .ok (.invokevirtual 197, 3) := by decide +kernel
theorem dX10_verdict_24 : decode cX10_verdict 24 = .ok (.ireturn, 1) := by decide +kernel
theorem dX10_verdictBy_0 : decode cX10_verdictBy 0 = .ok (.iload_n 1, 1) := by decide +kernel
theorem dX10_verdictBy_1 : decode cX10_verdictBy 1 = .ok (.ifCond .lt 8, 3) := by decide +kernel
theorem dX10_verdictBy_4 : decode cX10_verdictBy 4 = .ok (.iload_n 1, 1) := by decide +kernel
theorem dX10_verdictBy_5 : decode cX10_verdictBy 5 = .ok (.iconst 2, 1) := by decide +kernel
theorem dX10_verdictBy_6 : decode cX10_verdictBy 6 = .ok (.if_icmp .le 9, 3) := by decide +kernel
theorem dX10_verdictBy_9 : decode cX10_verdictBy 9 = .ok (.aload_n 0, 1) := by decide +kernel
theorem dX10_verdictBy_10 : decode cX10_verdictBy 10 = .ok (.iconst 5, 1) := by decide +kernel
theorem dX10_verdictBy_11 : decode cX10_verdictBy 11 = .ok (.invokevirtual 133, 3) := by decide +kernel
theorem dX10_verdictBy_14 : decode cX10_verdictBy 14 = .ok (.ireturn, 1) := by decide +kernel
theorem dX10_verdictBy_15 : decode cX10_verdictBy 15 = .ok (.aload_n 0, 1) := by decide +kernel
theorem dX10_verdictBy_16 : decode cX10_verdictBy 16 = .ok (.aload_n 0, 1) := by decide +kernel
theorem dX10_verdictBy_17 : decode cX10_verdictBy 17 = .ok (.getfield 19, 3) := by decide +kernel
theorem dX10_verdictBy_20 : decode cX10_verdictBy 20 = .ok (.getfield 182, 3) := by decide +kernel
theorem dX10_verdictBy_23 : decode cX10_verdictBy 23 = .ok (.iload_n 1, 1) := by decide +kernel
theorem dX10_verdictBy_24 : decode cX10_verdictBy 24 = .ok (.invokevirtual 286, 3) := by decide +kernel
theorem dX10_verdictBy_27 : decode cX10_verdictBy 27 = .ok (.invokevirtual 197, 3) := by decide +kernel
theorem dX10_verdictBy_30 : decode cX10_verdictBy 30 = .ok (.ireturn, 1) := by decide +kernel
theorem dX10_swing_0 : decode cX10_swing 0 = .ok (.aload_n 0, 1) := by decide +kernel
theorem dX10_swing_1 : decode cX10_swing 1 = .ok (.getfield 19, 3) := by decide +kernel
theorem dX10_swing_4 : decode cX10_swing 4 = .ok (.getfield 182, 3) := by decide +kernel
theorem dX10_swing_7 : decode cX10_swing 7 = .ok (.astore_n 1, 1) := by decide +kernel
theorem dX10_swing_8 : decode cX10_swing 8 = .ok (.aload_n 0, 1) := by decide +kernel
theorem dX10_swing_9 : decode cX10_swing 9 = .ok (.getfield 19, 3) := by decide +kernel
theorem dX10_swing_12 : decode cX10_swing 12 = .ok (.getfield 175, 3) := by decide +kernel
theorem dX10_swing_15 : decode cX10_swing 15 = .ok (.getfield 213, 3) := by decide +kernel
theorem dX10_swing_18 : decode cX10_swing 18 = .ok (.istore_n 2, 1) := by decide +kernel
theorem dX10_swing_19 : decode cX10_swing 19 = .ok (.aload_n 1, 1) := by decide +kernel
theorem dX10_swing_20 : decode cX10_swing 20 = .ok (.invokevirtual 313, 3) := by decide +kernel
theorem dX10_swing_23 : decode cX10_swing 23 = .ok (.istore_n 3, 1) := by decide +kernel
theorem dX10_swing_24 : decode cX10_swing 24 = .ok (.aload_n 1, 1) := by decide +kernel
theorem dX10_swing_25 : decode cX10_swing 25 = .ok (.invokevirtual 317, 3) := by decide +kernel
theorem dX10_swing_28 : decode cX10_swing 28 = .ok (.iload_n 3, 1) := by decide +kernel
theorem dX10_swing_29 : decode cX10_swing 29 = .ok (.isub, 1) := by decide +kernel
theorem dX10_swing_30 : decode cX10_swing 30 = .ok (.istore 4, 2) := by decide +kernel
theorem dX10_swing_32 : decode cX10_swing 32 = .ok (.iload_n 2, 1) := by decide +kernel
theorem dX10_swing_33 : decode cX10_swing 33 = .ok (.iload_n 3, 1) := by decide +kernel
theorem dX10_swing_34 : decode cX10_swing 34 = .ok (.iload 4, 2) := by decide +kernel
theorem dX10_swing_36 : decode cX10_swing 36 = .ok (.invokestatic 320, 3) := by decide +kernel
theorem dX10_swing_39 : decode cX10_swing 39 = .ok (.istore 5, 2) := by decide +kernel
