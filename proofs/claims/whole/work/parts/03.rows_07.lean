theorem dX11_drawn_47 : decode cX11_drawn 47 = .ok (.iconst 5, 1) := by decide +kernel
theorem dX11_drawn_48 : decode cX11_drawn 48 = .ok (.invokevirtual 86, 3) := by decide +kernel
theorem dX11_drawn_51 : decode cX11_drawn 51 = .ok (.ireturn, 1) := by decide +kernel
theorem dX11_drawn_52 : decode cX11_drawn 52 = .ok (.aload_n 0, 1) := by decide +kernel
theorem dX11_drawn_53 : decode cX11_drawn 53 = .ok (.invokevirtual 411, 3) := by decide +kernel
theorem dX11_drawn_56 : decode cX11_drawn 56 = .ok (.lconst 0, 1) := by decide +kernel
theorem dX11_drawn_57 : decode cX11_drawn 57 = .ok (.lstore 4, 2) := by decide +kernel
theorem dX11_drawn_59 : decode cX11_drawn 59 = .ok (.lconst 0, 1) := by decide +kernel
theorem dX11_drawn_60 : decode cX11_drawn 60 = .ok (.lstore 6, 2) := by decide +kernel
theorem dX11_drawn_62 : decode cX11_drawn 62 = .ok (.iconst 0, 1) := by decide +kernel
theorem dX11_drawn_63 : decode cX11_drawn 63 = .ok (.istore 8, 2) := by decide +kernel
theorem dX11_drawn_65 : decode cX11_drawn 65 = .ok (.iload 8, 2) := by decide +kernel
theorem dX11_drawn_67 : decode cX11_drawn 67 = .ok (.iconst 1, 1) := by decide +kernel
theorem dX11_drawn_68 : decode cX11_drawn 68 = .ok (.aload_n 0, 1) := by decide +kernel
theorem dX11_drawn_69 : decode cX11_drawn 69 = .ok (.getfield 35, 3) := by decide +kernel
theorem dX11_drawn_72 : decode cX11_drawn 72 = .ok (.iconst 0, 1) := by decide +kernel
theorem dX11_drawn_73 : decode cX11_drawn 73 = .ok (.iaload, 1) := by decide +kernel
theorem dX11_drawn_74 : decode cX11_drawn 74 = .ok (.ishl, 1) := by decide +kernel
theorem dX11_drawn_75 : decode cX11_drawn 75 = .ok (.if_icmp .ge 107, 3) := by decide +kernel
theorem dX11_drawn_78 : decode cX11_drawn 78 = .ok (.iload 8, 2) := by decide +kernel
theorem dX11_drawn_80 : decode cX11_drawn 80 = .ok (.invokestatic 438, 3) := by decide +kernel
theorem dX11_drawn_83 : decode cX11_drawn 83 = .ok (.iload_n 1, 1) := by decide +kernel
theorem dX11_drawn_84 : decode cX11_drawn 84 = .ok (.if_icmp .eq 6, 3) := by decide +kernel
theorem dX11_drawn_87 : decode cX11_drawn 87 = .ok (.goto 89, 3) := by decide +kernel
theorem dX11_drawn_90 : decode cX11_drawn 90 = .ok (.lload 4, 2) := by decide +kernel
theorem dX11_drawn_92 : decode cX11_drawn 92 = .ok (.lconst 1, 1) := by decide +kernel
theorem dX11_drawn_93 : decode cX11_drawn 93 = .ok (.ladd, 1) := by decide +kernel
theorem dX11_drawn_94 : decode cX11_drawn 94 = .ok (.lstore 4, 2) := by decide +kernel
theorem dX11_drawn_96 : decode cX11_drawn 96 = .ok (.aload_n 0, 1) := by decide +kernel
theorem dX11_drawn_97 : decode cX11_drawn 97 = .ok (.getfield 35, 3) := by decide +kernel
theorem dX11_drawn_100 : decode cX11_drawn 100 = .ok (.bipush 10, 2) := by decide +kernel
theorem dX11_drawn_102 : decode cX11_drawn 102 = .ok (.iload 8, 2) := by decide +kernel
theorem dX11_drawn_104 : decode cX11_drawn 104 = .ok (.iastore, 1) := by decide +kernel
theorem dX11_drawn_105 : decode cX11_drawn 105 = .ok (.aload_n 0, 1) := by decide +kernel
theorem dX11_drawn_106 : decode cX11_drawn 106 = .ok (.getfield 35, 3) := by decide +kernel
theorem dX11_drawn_109 : decode cX11_drawn 109 = .ok (.bipush 7, 2) := by decide +kernel
theorem dX11_drawn_111 : decode cX11_drawn 111 = .ok (.iconst 0, 1) := by decide +kernel
theorem dX11_drawn_112 : decode cX11_drawn 112 = .ok (.iastore, 1) := by decide +kernel
theorem dX11_drawn_113 : decode cX11_drawn 113 = .ok (.iconst 0, 1) := by decide +kernel
theorem dX11_drawn_114 : decode cX11_drawn 114 = .ok (.istore 9, 2) := by decide +kernel
theorem dX11_drawn_116 : decode cX11_drawn 116 = .ok (.iload 9, 2) := by decide +kernel
theorem dX11_drawn_118 : decode cX11_drawn 118 = .ok (.aload_n 0, 1) := by decide +kernel
theorem dX11_drawn_119 : decode cX11_drawn 119 = .ok (.getfield 35, 3) := by decide +kernel
theorem dX11_drawn_122 : decode cX11_drawn 122 = .ok (.iconst 0, 1) := by decide +kernel
theorem dX11_drawn_123 : decode cX11_drawn 123 = .ok (.iaload, 1) := by decide +kernel
theorem dX11_drawn_124 : decode cX11_drawn 124 = .ok (.if_icmp .ge 29, 3) := by decide +kernel
theorem dX11_drawn_127 : decode cX11_drawn 127 = .ok (.aload_n 0, 1) := by decide +kernel
theorem dX11_drawn_128 : decode cX11_drawn 128 = .ok (.getfield 35, 3) := by decide +kernel
theorem dX11_drawn_131 : decode cX11_drawn 131 = .ok (.bipush 42, 2) := by decide +kernel
theorem dX11_drawn_133 : decode cX11_drawn 133 = .ok (.iload 9, 2) := by decide +kernel
theorem dX11_drawn_135 : decode cX11_drawn 135 = .ok (.iadd, 1) := by decide +kernel
theorem dX11_drawn_136 : decode cX11_drawn 136 = .ok (.aload_n 0, 1) := by decide +kernel
theorem dX11_drawn_137 : decode cX11_drawn 137 = .ok (.getfield 35, 3) := by decide +kernel
theorem dX11_drawn_140 : decode cX11_drawn 140 = .ok (.bipush 12, 2) := by decide +kernel
theorem dX11_drawn_142 : decode cX11_drawn 142 = .ok (.iload 9, 2) := by decide +kernel
theorem dX11_drawn_144 : decode cX11_drawn 144 = .ok (.iadd, 1) := by decide +kernel
theorem dX11_drawn_145 : decode cX11_drawn 145 = .ok (.iaload, 1) := by decide +kernel
theorem dX11_drawn_146 : decode cX11_drawn 146 = .ok (.iastore, 1) := by decide +kernel
theorem dX11_drawn_147 : decode cX11_drawn 147 = .ok (.iinc 9 1, 3) := by decide +kernel
theorem dX11_drawn_150 : decode cX11_drawn 150 = .ok (.goto (-34), 3) := by decide +kernel
theorem dX11_drawn_153 : decode cX11_drawn 153 = .ok (.aload_n 0, 1) := by decide +kernel
theorem dX11_drawn_154 : decode cX11_drawn 154 = .ok (.iload_n 2, 1) := by decide +kernel
theorem dX11_drawn_155 : decode cX11_drawn 155 = .ok (.invokevirtual 386, 3) := by decide +kernel
theorem dX11_drawn_158 : decode cX11_drawn 158 = .ok (.lload 6, 2) := by decide +kernel
theorem dX11_drawn_160 : decode cX11_drawn 160 = .ok (.aload_n 0, 1) := by decide +kernel
theorem dX11_drawn_161 : decode cX11_drawn 161 = .ok (.invokevirtual 389, 3) := by decide +kernel
theorem dX11_drawn_164 : decode cX11_drawn 164 = .ok (.iload_n 3, 1) := by decide +kernel
theorem dX11_drawn_165 : decode cX11_drawn 165 = .ok (.if_icmp .ne 7, 3) := by decide +kernel
theorem dX11_drawn_168 : decode cX11_drawn 168 = .ok (.lconst 1, 1) := by decide +kernel
theorem dX11_drawn_169 : decode cX11_drawn 169 = .ok (.goto 4, 3) := by decide +kernel
theorem dX11_drawn_172 : decode cX11_drawn 172 = .ok (.lconst 0, 1) := by decide +kernel
theorem dX11_drawn_173 : decode cX11_drawn 173 = .ok (.ladd, 1) := by decide +kernel
theorem dX11_drawn_174 : decode cX11_drawn 174 = .ok (.lstore 6, 2) := by decide +kernel
theorem dX11_drawn_176 : decode cX11_drawn 176 = .ok (.iinc 8 1, 3) := by decide +kernel
theorem dX11_drawn_179 : decode cX11_drawn 179 = .ok (.goto (-114), 3) := by decide +kernel
theorem dX11_drawn_182 : decode cX11_drawn 182 = .ok (.aload_n 0, 1) := by decide +kernel
theorem dX11_drawn_183 : decode cX11_drawn 183 = .ok (.invokevirtual 417, 3) := by decide +kernel
theorem dX11_drawn_186 : decode cX11_drawn 186 = .ok (.aload_n 0, 1) := by decide +kernel
theorem dX11_drawn_187 : decode cX11_drawn 187 = .ok (.lload 6, 2) := by decide +kernel
theorem dX11_drawn_189 : decode cX11_drawn 189 = .ok (.lload 4, 2) := by decide +kernel
theorem dX11_drawn_191 : decode cX11_drawn 191 = .ok (.invokevirtual 444, 3) := by decide +kernel
theorem dX11_drawn_194 : decode cX11_drawn 194 = .ok (.ireturn, 1) := by decide +kernel
set_option maxRecDepth 20000 in
theorem ggX11_goesRow_X11_isTray : GoodIn wsX11_goesRow wsX11_isTray := goodIn_r _ [8, 9, 10, 11, 7, 12] (by decide +kernel) (by decide +kernel)
set_option maxRecDepth 20000 in
theorem gX11_goesRow_X11_isTray : GoodIn wsX11_goesRow (wsV RX11 358 RX11 yX11_isTray wsX11_isTray) := goodIn_app (goodIn_of _ (by decide +kernel)) ggX11_goesRow_X11_isTray
set_option maxRecDepth 20000 in
theorem ggX11_goesRow_X11_isIn : GoodIn wsX11_goesRow wsX11_isIn := goodIn_r _ [12] (by decide +kernel) (by decide +kernel)
set_option maxRecDepth 20000 in
theorem gX11_goesRow_X11_isIn : GoodIn wsX11_goesRow (va_wsS RX11 106 yX11_isIn wsX11_isIn) := goodIn_app (goodIn_of _ (by decide +kernel)) ggX11_goesRow_X11_isIn
set_option maxRecDepth 20000 in
theorem ggX11_goesRow_X11_numberOf : GoodIn wsX11_goesRow wsX11_numberOf := goodIn_r _ [16, 17, 22, 23, 24, 25, 26, 27, 28, 29, 30, 31, 32, 33, 34, 35, 36, 37, 38, 39, 40, 41, 42, 43, 44, 45, 46, 47, 48, 49, 50, 51, 52, 53, 54, 55, 56, 57, 58, 59, 60, 61, 62, 63, 64, 65, 66, 67] (by decide +kernel) (by decide +kernel)
set_option maxRecDepth 20000 in
theorem gX11_goesRow_X11_numberOf : GoodIn wsX11_goesRow (wsV RX11 450 RX11 yX11_numberOf wsX11_numberOf) := goodIn_app (goodIn_of _ (by decide +kernel)) ggX11_goesRow_X11_numberOf
set_option maxRecDepth 20000 in
theorem ggX11_goesRow_X11_isVerdict : GoodIn wsX11_goesRow wsX11_isVerdict := goodIn_r _ [20, 21, 10, 11, 7, 12] (by decide +kernel) (by decide +kernel)
set_option maxRecDepth 20000 in
theorem gX11_goesRow_X11_isVerdict : GoodIn wsX11_goesRow (va_wsS RX11 422 yX11_isVerdict wsX11_isVerdict) := goodIn_app (goodIn_of _ (by decide +kernel)) ggX11_goesRow_X11_isVerdict
theorem dX11_goesRow_0 : decode cX11_goesRow 0 = .ok (.aload_n 0, 1) := by decide +kernel
theorem dX11_goesRow_1 : decode cX11_goesRow 1 = .ok (.iload_n 1, 1) := by decide +kernel
theorem dX11_goesRow_2 : decode cX11_goesRow 2 = .ok (.invokevirtual 358, 3) := by decide +kernel
theorem dX11_goesRow_5 : decode cX11_goesRow 5 = .ok (.ifCond .ne 5, 3) := by decide +kernel
theorem dX11_goesRow_8 : decode cX11_goesRow 8 = .ok (.iconst 1, 1) := by decide +kernel
theorem dX11_goesRow_9 : decode cX11_goesRow 9 = .ok (.ireturn, 1) := by decide +kernel
theorem dX11_goesRow_10 : decode cX11_goesRow 10 = .ok (.aload_n 0, 1) := by decide +kernel
theorem dX11_goesRow_11 : decode cX11_goesRow 11 = .ok (.getfield 17, 3) := by decide +kernel
theorem dX11_goesRow_14 : decode cX11_goesRow 14 = .ok (.iload_n 1, 1) := by decide +kernel
theorem dX11_goesRow_15 : decode cX11_goesRow 15 = .ok (.iaload, 1) := by decide +kernel
theorem dX11_goesRow_16 : decode cX11_goesRow 16 = .ok (.ifCond .ge 5, 3) := by decide +kernel
theorem dX11_goesRow_19 : decode cX11_goesRow 19 = .ok (.iconst 3, 1) := by decide +kernel
theorem dX11_goesRow_20 : decode cX11_goesRow 20 = .ok (.ireturn, 1) := by decide +kernel
theorem dX11_goesRow_21 : decode cX11_goesRow 21 = .ok (.aload_n 0, 1) := by decide +kernel
theorem dX11_goesRow_22 : decode cX11_goesRow 22 = .ok (.getfield 17, 3) := by decide +kernel
theorem dX11_goesRow_25 : decode cX11_goesRow 25 = .ok (.iload_n 1, 1) := by decide +kernel
theorem dX11_goesRow_26 : decode cX11_goesRow 26 = .ok (.iaload, 1) := by decide +kernel
theorem dX11_goesRow_27 : decode cX11_goesRow 27 = .ok (.iload_n 2, 1) := by decide +kernel
theorem dX11_goesRow_28 : decode cX11_goesRow 28 = .ok (.if_icmp .ge 5, 3) := by decide +kernel
theorem dX11_goesRow_31 : decode cX11_goesRow 31 = .ok (.iconst 4, 1) := by decide +kernel
theorem dX11_goesRow_32 : decode cX11_goesRow 32 = .ok (.ireturn, 1) := by decide +kernel
theorem dX11_goesRow_33 : decode cX11_goesRow 33 = .ok (.iload_n 2, 1) := by decide +kernel
theorem dX11_goesRow_34 : decode cX11_goesRow 34 = .ok (.i2l, 1) := by decide +kernel
theorem dX11_goesRow_35 : decode cX11_goesRow 35 = .ok (.lconst 0, 1) := by decide +kernel
theorem dX11_goesRow_36 : decode cX11_goesRow 36 = .ok (.ldc2_w 448, 3) := by decide +kernel
theorem dX11_goesRow_39 : decode cX11_goesRow 39 = .ok (.invokestatic 106, 3) := by decide +kernel
theorem dX11_goesRow_42 : decode cX11_goesRow 42 = .ok (.ifCond .ne 5, 3) := by decide +kernel
theorem dX11_goesRow_45 : decode cX11_goesRow 45 = .ok (.iconst 5, 1) := by decide +kernel
theorem dX11_goesRow_46 : decode cX11_goesRow 46 = .ok (.ireturn, 1) := by decide +kernel
theorem dX11_goesRow_47 : decode cX11_goesRow 47 = .ok (.iconst 0, 1) := by decide +kernel
theorem dX11_goesRow_48 : decode cX11_goesRow 48 = .ok (.istore_n 3, 1) := by decide +kernel
theorem dX11_goesRow_49 : decode cX11_goesRow 49 = .ok (.iload_n 3, 1) := by decide +kernel
theorem dX11_goesRow_50 : decode cX11_goesRow 50 = .ok (.iload_n 2, 1) := by decide +kernel
theorem dX11_goesRow_51 : decode cX11_goesRow 51 = .ok (.if_icmp .ge 23, 3) := by decide +kernel
theorem dX11_goesRow_54 : decode cX11_goesRow 54 = .ok (.aload_n 0, 1) := by decide +kernel
theorem dX11_goesRow_55 : decode cX11_goesRow 55 = .ok (.iload_n 1, 1) := by decide +kernel
theorem dX11_goesRow_56 : decode cX11_goesRow 56 = .ok (.iload_n 3, 1) := by decide +kernel
theorem dX11_goesRow_57 : decode cX11_goesRow 57 = .ok (.invokevirtual 450, 3) := by decide +kernel
theorem dX11_goesRow_60 : decode cX11_goesRow 60 = .ok (.invokestatic 422, 3) := by decide +kernel
theorem dX11_goesRow_63 : decode cX11_goesRow 63 = .ok (.ifCond .ne 5, 3) := by decide +kernel
theorem dX11_goesRow_66 : decode cX11_goesRow 66 = .ok (.iconst 5, 1) := by decide +kernel
theorem dX11_goesRow_67 : decode cX11_goesRow 67 = .ok (.ireturn, 1) := by decide +kernel
theorem dX11_goesRow_68 : decode cX11_goesRow 68 = .ok (.iinc 3 1, 3) := by decide +kernel
theorem dX11_goesRow_71 : decode cX11_goesRow 71 = .ok (.goto (-22), 3) := by decide +kernel
theorem dX11_goesRow_74 : decode cX11_goesRow 74 = .ok (.aload_n 0, 1) := by decide +kernel
theorem dX11_goesRow_75 : decode cX11_goesRow 75 = .ok (.getfield 35, 3) := by decide +kernel
theorem dX11_goesRow_78 : decode cX11_goesRow 78 = .ok (.bipush 8, 2) := by decide +kernel
theorem dX11_goesRow_80 : decode cX11_goesRow 80 = .ok (.iaload, 1) := by decide +kernel
theorem dX11_goesRow_81 : decode cX11_goesRow 81 = .ok (.ifCond .ge 8, 3) := by decide +kernel
theorem dX11_goesRow_84 : decode cX11_goesRow 84 = .ok (.bipush 8, 2) := by decide +kernel
theorem dX11_goesRow_86 : decode cX11_goesRow 86 = .ok (.goto 4, 3) := by decide +kernel
theorem dX11_goesRow_89 : decode cX11_goesRow 89 = .ok (.iconst 0, 1) := by decide +kernel
theorem dX11_goesRow_90 : decode cX11_goesRow 90 = .ok (.ireturn, 1) := by decide +kernel
set_option maxRecDepth 20000 in
theorem ggX11_growsRow_X11_growsOn : GoodIn wsX11_growsRow wsX11_growsOn := goodIn_r _ [7, 1, 17, 18, 19, 20, 21, 22, 23, 24, 25, 26, 27, 28, 29, 30, 31, 32, 33, 34, 35, 36, 37, 38, 39, 40, 41, 42, 43, 44, 45, 46, 47, 48, 49, 50, 51, 52, 53, 54, 55, 56, 57, 58, 59, 60, 61, 62] (by decide +kernel) (by decide +kernel)
set_option maxRecDepth 20000 in
theorem gX11_growsRow_X11_growsOn : GoodIn wsX11_growsRow (wsV RX11 355 RX11 yX11_growsOn wsX11_growsOn) := goodIn_app (goodIn_of _ (by decide +kernel)) ggX11_growsRow_X11_growsOn
set_option maxRecDepth 20000 in
theorem ggX11_growsRow_X11_numberOf : GoodIn wsX11_growsRow wsX11_numberOf := goodIn_r _ [11, 12, 17, 18, 19, 20, 21, 22, 23, 24, 25, 26, 27, 28, 29, 30, 31, 32, 33, 34, 35, 36, 37, 38, 39, 40, 41, 42, 43, 44, 45, 46, 47, 48, 49, 50, 51, 52, 53, 54, 55, 56, 57, 58, 59, 60, 61, 62] (by decide +kernel) (by decide +kernel)
set_option maxRecDepth 20000 in
theorem gX11_growsRow_X11_numberOf : GoodIn wsX11_growsRow (wsV RX11 450 RX11 yX11_numberOf wsX11_numberOf) := goodIn_app (goodIn_of _ (by decide +kernel)) ggX11_growsRow_X11_numberOf
set_option maxRecDepth 20000 in
theorem ggX11_growsRow_X11_behindOf : GoodIn wsX11_growsRow wsX11_behindOf := goodIn_r _ [16, 1, 17, 18, 19, 20, 21, 22, 23, 24, 25, 26, 27, 28, 29, 30, 31, 32, 33, 34, 35, 36, 37, 38, 39, 40, 41, 42, 43, 44, 45, 46, 47, 48, 49, 50, 51, 52, 53, 54, 55, 56, 57, 58, 59, 60, 61, 62] (by decide +kernel) (by decide +kernel)
set_option maxRecDepth 20000 in
theorem gX11_growsRow_X11_behindOf : GoodIn wsX11_growsRow (wsV RX11 349 RX11 yX11_behindOf wsX11_behindOf) := goodIn_app (goodIn_of _ (by decide +kernel)) ggX11_growsRow_X11_behindOf
theorem dX11_growsRow_0 : decode cX11_growsRow 0 = .ok (.iconst 0, 1) := by decide +kernel
theorem dX11_growsRow_1 : decode cX11_growsRow 1 = .ok (.istore 4, 2) := by decide +kernel
theorem dX11_growsRow_3 : decode cX11_growsRow 3 = .ok (.aload_n 0, 1) := by decide +kernel
theorem dX11_growsRow_4 : decode cX11_growsRow 4 = .ok (.aload_n 0, 1) := by decide +kernel
theorem dX11_growsRow_5 : decode cX11_growsRow 5 = .ok (.getfield 35, 3) := by decide +kernel
theorem dX11_growsRow_8 : decode cX11_growsRow 8 = .ok (.bipush 8, 2) := by decide +kernel
theorem dX11_growsRow_10 : decode cX11_growsRow 10 = .ok (.iaload, 1) := by decide +kernel
theorem dX11_growsRow_11 : decode cX11_growsRow 11 = .ok (.putfield 454, 3) := by decide +kernel
theorem dX11_growsRow_14 : decode cX11_growsRow 14 = .ok (.iconst 0, 1) := by decide +kernel
theorem dX11_growsRow_15 : decode cX11_growsRow 15 = .ok (.istore 5, 2) := by decide +kernel
theorem dX11_growsRow_17 : decode cX11_growsRow 17 = .ok (.iload 5, 2) := by decide +kernel
theorem dX11_growsRow_19 : decode cX11_growsRow 19 = .ok (.iload_n 2, 1) := by decide +kernel
theorem dX11_growsRow_20 : decode cX11_growsRow 20 = .ok (.if_icmp .ge 51, 3) := by decide +kernel
theorem dX11_growsRow_23 : decode cX11_growsRow 23 = .ok (.iload 4, 2) := by decide +kernel
theorem dX11_growsRow_25 : decode cX11_growsRow 25 = .ok (.iload_n 3, 1) := by decide +kernel
theorem dX11_growsRow_26 : decode cX11_growsRow 26 = .ok (.ifCond .ge 7, 3) := by decide +kernel
theorem dX11_growsRow_29 : decode cX11_growsRow 29 = .ok (.iconst 0, 1) := by decide +kernel
theorem dX11_growsRow_30 : decode cX11_growsRow 30 = .ok (.goto 12, 3) := by decide +kernel
theorem dX11_growsRow_33 : decode cX11_growsRow 33 = .ok (.aload_n 0, 1) := by decide +kernel
theorem dX11_growsRow_34 : decode cX11_growsRow 34 = .ok (.iload_n 3, 1) := by decide +kernel
theorem dX11_growsRow_35 : decode cX11_growsRow 35 = .ok (.aload_n 0, 1) := by decide +kernel
theorem dX11_growsRow_36 : decode cX11_growsRow 36 = .ok (.getfield 454, 3) := by decide +kernel
theorem dX11_growsRow_39 : decode cX11_growsRow 39 = .ok (.invokevirtual 355, 3) := by decide +kernel
theorem dX11_growsRow_42 : decode cX11_growsRow 42 = .ok (.iadd, 1) := by decide +kernel
theorem dX11_growsRow_43 : decode cX11_growsRow 43 = .ok (.istore 4, 2) := by decide +kernel
theorem dX11_growsRow_45 : decode cX11_growsRow 45 = .ok (.aload_n 0, 1) := by decide +kernel
theorem dX11_growsRow_46 : decode cX11_growsRow 46 = .ok (.aload_n 0, 1) := by decide +kernel
theorem dX11_growsRow_47 : decode cX11_growsRow 47 = .ok (.aload_n 0, 1) := by decide +kernel
theorem dX11_growsRow_48 : decode cX11_growsRow 48 = .ok (.getfield 454, 3) := by decide +kernel
theorem dX11_growsRow_51 : decode cX11_growsRow 51 = .ok (.aload_n 0, 1) := by decide +kernel
theorem dX11_growsRow_52 : decode cX11_growsRow 52 = .ok (.iload_n 1, 1) := by decide +kernel
theorem dX11_growsRow_53 : decode cX11_growsRow 53 = .ok (.iload 5, 2) := by decide +kernel
theorem dX11_growsRow_55 : decode cX11_growsRow 55 = .ok (.invokevirtual 450, 3) := by decide +kernel
theorem dX11_growsRow_58 : decode cX11_growsRow 58 = .ok (.l2i, 1) := by decide +kernel
theorem dX11_growsRow_59 : decode cX11_growsRow 59 = .ok (.invokevirtual 349, 3) := by decide +kernel
theorem dX11_growsRow_62 : decode cX11_growsRow 62 = .ok (.putfield 454, 3) := by decide +kernel
theorem dX11_growsRow_65 : decode cX11_growsRow 65 = .ok (.iinc 5 1, 3) := by decide +kernel
theorem dX11_growsRow_68 : decode cX11_growsRow 68 = .ok (.goto (-51), 3) := by decide +kernel
theorem dX11_growsRow_71 : decode cX11_growsRow 71 = .ok (.iload 4, 2) := by decide +kernel
theorem dX11_growsRow_73 : decode cX11_growsRow 73 = .ok (.ireturn, 1) := by decide +kernel
set_option maxRecDepth 20000 in
theorem ggX11_row_X11_goesRow : GoodIn wsX11_row wsX11_goesRow := goodIn_r _ [8, 9, 10, 11, 12, 13, 14, 7, 15, 16, 17, 18, 19, 20, 21, 22, 23, 24, 25, 26, 27, 28, 41, 42, 43, 44, 45, 46, 47, 48, 49, 50, 51, 52, 53, 54, 55, 56, 57, 58, 59, 60, 61, 62, 63, 64, 65, 66, 67, 68, 69, 70, 71, 72, 73, 74, 75, 76, 77, 78, 79, 80, 81, 82, 83, 84, 85, 86] (by decide +kernel) (by decide +kernel)
set_option maxRecDepth 20000 in
theorem gX11_row_X11_goesRow : GoodIn wsX11_row (wsV RX11 457 RX11 yX11_goesRow wsX11_goesRow) := goodIn_app (goodIn_of _ (by decide +kernel)) ggX11_row_X11_goesRow
set_option maxRecDepth 20000 in
theorem ggX11_row_X11_growsRow : GoodIn wsX11_row wsX11_growsRow := goodIn_r _ [32, 11, 3, 33, 34, 35, 7, 36, 20, 21, 22, 23, 24, 37, 38, 39, 40, 41, 42, 43, 44, 45, 46, 47, 48, 49, 50, 51, 52, 53, 54, 55, 56, 57, 58, 59, 60, 61, 62, 63, 64, 65, 66, 67, 68, 69, 70, 71, 72, 73, 74, 75, 76, 77, 78, 79, 80, 81, 82, 83, 84, 85, 86] (by decide +kernel) (by decide +kernel)
set_option maxRecDepth 20000 in
theorem gX11_row_X11_growsRow : GoodIn wsX11_row (wsV RX11 460 RX11 yX11_growsRow wsX11_growsRow) := goodIn_app (goodIn_of _ (by decide +kernel)) ggX11_row_X11_growsRow
theorem dX11_row_0 : decode cX11_row 0 = .ok (.aload_n 0, 1) := by decide +kernel
theorem dX11_row_1 : decode cX11_row 1 = .ok (.iconst 0, 1) := by decide +kernel
theorem dX11_row_2 : decode cX11_row 2 = .ok (.putfield 71, 3) := by decide +kernel
theorem dX11_row_5 : decode cX11_row 5 = .ok (.aload_n 0, 1) := by decide +kernel
theorem dX11_row_6 : decode cX11_row 6 = .ok (.aload_n 0, 1) := by decide +kernel
theorem dX11_row_7 : decode cX11_row 7 = .ok (.iload_n 1, 1) := by decide +kernel
theorem dX11_row_8 : decode cX11_row 8 = .ok (.iload_n 2, 1) := by decide +kernel
theorem dX11_row_9 : decode cX11_row 9 = .ok (.invokevirtual 457, 3) := by decide +kernel
theorem dX11_row_12 : decode cX11_row 12 = .ok (.putfield 74, 3) := by decide +kernel
theorem dX11_row_15 : decode cX11_row 15 = .ok (.aload_n 0, 1) := by decide +kernel
theorem dX11_row_16 : decode cX11_row 16 = .ok (.getfield 74, 3) := by decide +kernel
theorem dX11_row_19 : decode cX11_row 19 = .ok (.ifCond .le 5, 3) := by decide +kernel
theorem dX11_row_22 : decode cX11_row 22 = .ok (.iconst (-1), 1) := by decide +kernel
theorem dX11_row_23 : decode cX11_row 23 = .ok (.ireturn, 1) := by decide +kernel
theorem dX11_row_24 : decode cX11_row 24 = .ok (.aload_n 0, 1) := by decide +kernel
theorem dX11_row_25 : decode cX11_row 25 = .ok (.iload_n 1, 1) := by decide +kernel
theorem dX11_row_26 : decode cX11_row 26 = .ok (.iload_n 2, 1) := by decide +kernel
theorem dX11_row_27 : decode cX11_row 27 = .ok (.iconst (-1), 1) := by decide +kernel
theorem dX11_row_28 : decode cX11_row 28 = .ok (.invokevirtual 460, 3) := by decide +kernel
theorem dX11_row_31 : decode cX11_row 31 = .ok (.pop, 1) := by decide +kernel
theorem dX11_row_32 : decode cX11_row 32 = .ok (.aload_n 0, 1) := by decide +kernel
theorem dX11_row_33 : decode cX11_row 33 = .ok (.getfield 454, 3) := by decide +kernel
theorem dX11_row_36 : decode cX11_row 36 = .ok (.ireturn, 1) := by decide +kernel
set_option maxRecDepth 20000 in
theorem ggX11_rowGrows_X11_goesRow : GoodIn wsX11_rowGrows wsX11_goesRow := goodIn_r _ [7, 8, 9, 10, 11, 12, 13, 6, 14, 15, 16, 17, 18, 19, 20, 21, 22, 23, 24, 25, 26, 27, 49, 50, 51, 52, 53, 54, 55, 56, 57, 58, 59, 60, 61, 62, 63, 64, 65, 66, 67, 68, 69, 70, 71, 72, 73, 74, 75, 76, 77, 78, 79, 80, 81, 82, 83, 84, 85, 86, 87, 88, 89, 90, 91, 92, 93, 94] (by decide +kernel) (by decide +kernel)
set_option maxRecDepth 20000 in
theorem gX11_rowGrows_X11_goesRow : GoodIn wsX11_rowGrows (wsV RX11 457 RX11 yX11_goesRow wsX11_goesRow) := goodIn_app (goodIn_of _ (by decide +kernel)) ggX11_rowGrows_X11_goesRow
set_option maxRecDepth 20000 in
theorem ggX11_rowGrows_X11_isCropAt : GoodIn wsX11_rowGrows wsX11_isCropAt := goodIn_r _ [31, 10, 16, 17, 6, 18, 49, 50, 51, 52, 53, 54, 55, 56, 57, 58, 59, 60, 61, 62, 63, 64, 65, 66, 67, 68, 69, 70, 71, 72, 73, 74, 75, 76, 77, 78, 79, 80, 81, 82, 83, 84, 85, 86, 87, 88, 89, 90, 91, 92, 93, 94] (by decide +kernel) (by decide +kernel)
set_option maxRecDepth 20000 in
theorem gX11_rowGrows_X11_isCropAt : GoodIn wsX11_rowGrows (wsV RX11 352 RX11 yX11_isCropAt wsX11_isCropAt) := goodIn_app (goodIn_of _ (by decide +kernel)) ggX11_rowGrows_X11_isCropAt
set_option maxRecDepth 20000 in
theorem ggX11_rowGrows_X11_growsRow : GoodIn wsX11_rowGrows wsX11_growsRow := goodIn_r _ [35, 10, 36, 37, 38, 39, 6, 40, 19, 20, 21, 22, 23, 41, 42, 43, 44, 49, 50, 51, 52, 53, 54, 55, 56, 57, 58, 59, 60, 61, 62, 63, 64, 65, 66, 67, 68, 69, 70, 71, 72, 73, 74, 75, 76, 77, 78, 79, 80, 81, 82, 83, 84, 85, 86, 87, 88, 89, 90, 91, 92, 93, 94] (by decide +kernel) (by decide +kernel)
set_option maxRecDepth 20000 in
theorem gX11_rowGrows_X11_growsRow : GoodIn wsX11_rowGrows (wsV RX11 460 RX11 yX11_growsRow wsX11_growsRow) := goodIn_app (goodIn_of _ (by decide +kernel)) ggX11_rowGrows_X11_growsRow
set_option maxRecDepth 20000 in
theorem ggX11_rowGrows_X11_refuse : GoodIn wsX11_rowGrows wsX11_refuse := goodIn_r _ [48, 2, 49, 50, 51, 52, 53, 54, 55, 56, 57, 58, 59, 60, 61, 62, 63, 64, 65, 66, 67, 68, 69, 70, 71, 72, 73, 74, 75, 76, 77, 78, 79, 80, 81, 82, 83, 84, 85, 86, 87, 88, 89, 90, 91, 92, 93, 94] (by decide +kernel) (by decide +kernel)
set_option maxRecDepth 20000 in
theorem gX11_rowGrows_X11_refuse : GoodIn wsX11_rowGrows (wsV RX11 340 RX11 yX11_refuse wsX11_refuse) := goodIn_app (goodIn_of _ (by decide +kernel)) ggX11_rowGrows_X11_refuse
theorem dX11_rowGrows_0 : decode cX11_rowGrows 0 = .ok (.aload_n 0, 1) := by decide +kernel
theorem dX11_rowGrows_1 : decode cX11_rowGrows 1 = .ok (.iconst 0, 1) := by decide +kernel
theorem dX11_rowGrows_2 : decode cX11_rowGrows 2 = .ok (.putfield 71, 3) := by decide +kernel
theorem dX11_rowGrows_5 : decode cX11_rowGrows 5 = .ok (.aload_n 0, 1) := by decide +kernel
theorem dX11_rowGrows_6 : decode cX11_rowGrows 6 = .ok (.aload_n 0, 1) := by decide +kernel
theorem dX11_rowGrows_7 : decode cX11_rowGrows 7 = .ok (.iload_n 1, 1) := by decide +kernel
theorem dX11_rowGrows_8 : decode cX11_rowGrows 8 = .ok (.iload_n 2, 1) := by decide +kernel
theorem dX11_rowGrows_9 : decode cX11_rowGrows 9 = .ok (.invokevirtual 457, 3) := by decide +kernel
theorem dX11_rowGrows_12 : decode cX11_rowGrows 12 = .ok (.putfield 74, 3) := by decide +kernel
theorem dX11_rowGrows_15 : decode cX11_rowGrows 15 = .ok (.aload_n 0, 1) := by decide +kernel
theorem dX11_rowGrows_16 : decode cX11_rowGrows 16 = .ok (.getfield 74, 3) := by decide +kernel
theorem dX11_rowGrows_19 : decode cX11_rowGrows 19 = .ok (.ifCond .le 5, 3) := by decide +kernel
theorem dX11_rowGrows_22 : decode cX11_rowGrows 22 = .ok (.iconst (-1), 1) := by decide +kernel
theorem dX11_rowGrows_23 : decode cX11_rowGrows 23 = .ok (.ireturn, 1) := by decide +kernel
theorem dX11_rowGrows_24 : decode cX11_rowGrows 24 = .ok (.aload_n 0, 1) := by decide +kernel
theorem dX11_rowGrows_25 : decode cX11_rowGrows 25 = .ok (.iload_n 3, 1) := by decide +kernel
theorem dX11_rowGrows_26 : decode cX11_rowGrows 26 = .ok (.invokevirtual 352, 3) := by decide +kernel
theorem dX11_rowGrows_29 : decode cX11_rowGrows 29 = .ok (.ifCond .eq 13, 3) := by decide +kernel
theorem dX11_rowGrows_32 : decode cX11_rowGrows 32 = .ok (.aload_n 0, 1) := by decide +kernel
theorem dX11_rowGrows_33 : decode cX11_rowGrows 33 = .ok (.iload_n 1, 1) := by decide +kernel
theorem dX11_rowGrows_34 : decode cX11_rowGrows 34 = .ok (.iload_n 2, 1) := by decide +kernel
theorem dX11_rowGrows_35 : decode cX11_rowGrows 35 = .ok (.iload_n 3, 1) := by decide +kernel
theorem dX11_rowGrows_36 : decode cX11_rowGrows 36 = .ok (.invokevirtual 460, 3) := by decide +kernel
theorem dX11_rowGrows_39 : decode cX11_rowGrows 39 = .ok (.goto 8, 3) := by decide +kernel
theorem dX11_rowGrows_42 : decode cX11_rowGrows 42 = .ok (.aload_n 0, 1) := by decide +kernel
theorem dX11_rowGrows_43 : decode cX11_rowGrows 43 = .ok (.iconst 2, 1) := by decide +kernel
theorem dX11_rowGrows_44 : decode cX11_rowGrows 44 = .ok (.invokevirtual 340, 3) := by decide +kernel
theorem dX11_rowGrows_47 : decode cX11_rowGrows 47 = .ok (.ireturn, 1) := by decide +kernel
set_option maxRecDepth 20000 in
theorem ggX11_behindSet_X11_has : GoodIn wsX11_behindSet wsX11_has := goodIn_r _ [5] (by decide +kernel) (by decide +kernel)
set_option maxRecDepth 20000 in
theorem gX11_behindSet_X11_has : GoodIn wsX11_behindSet (va_wsS RX11 110 yX11_has wsX11_has) := goodIn_app (goodIn_of _ (by decide +kernel)) ggX11_behindSet_X11_has
theorem dX11_behindSet_0 : decode cX11_behindSet 0 = .ok (.iconst 0, 1) := by decide +kernel
theorem dX11_behindSet_1 : decode cX11_behindSet 1 = .ok (.istore_n 2, 1) := by decide +kernel
theorem dX11_behindSet_2 : decode cX11_behindSet 2 = .ok (.iconst 0, 1) := by decide +kernel
theorem dX11_behindSet_3 : decode cX11_behindSet 3 = .ok (.istore_n 3, 1) := by decide +kernel
theorem dX11_behindSet_4 : decode cX11_behindSet 4 = .ok (.iload_n 3, 1) := by decide +kernel
theorem dX11_behindSet_5 : decode cX11_behindSet 5 = .ok (.aload_n 0, 1) := by decide +kernel
theorem dX11_behindSet_6 : decode cX11_behindSet 6 = .ok (.getfield 35, 3) := by decide +kernel
theorem dX11_behindSet_9 : decode cX11_behindSet 9 = .ok (.iconst 2, 1) := by decide +kernel
theorem dX11_behindSet_10 : decode cX11_behindSet 10 = .ok (.iaload, 1) := by decide +kernel
theorem dX11_behindSet_11 : decode cX11_behindSet 11 = .ok (.if_icmp .ge 49, 3) := by decide +kernel
theorem dX11_behindSet_14 : decode cX11_behindSet 14 = .ok (.iload_n 2, 1) := by decide +kernel
theorem dX11_behindSet_15 : decode cX11_behindSet 15 = .ok (.iload_n 1, 1) := by decide +kernel
theorem dX11_behindSet_16 : decode cX11_behindSet 16 = .ok (.iload_n 3, 1) := by decide +kernel
theorem dX11_behindSet_17 : decode cX11_behindSet 17 = .ok (.invokestatic 110, 3) := by decide +kernel
theorem dX11_behindSet_20 : decode cX11_behindSet 20 = .ok (.ifCond .eq 31, 3) := by decide +kernel
theorem dX11_behindSet_23 : decode cX11_behindSet 23 = .ok (.iconst 1, 1) := by decide +kernel
theorem dX11_behindSet_24 : decode cX11_behindSet 24 = .ok (.aload_n 0, 1) := by decide +kernel
theorem dX11_behindSet_25 : decode cX11_behindSet 25 = .ok (.getfield 35, 3) := by decide +kernel
theorem dX11_behindSet_28 : decode cX11_behindSet 28 = .ok (.sipush 158, 3) := by decide +kernel
theorem dX11_behindSet_31 : decode cX11_behindSet 31 = .ok (.iload_n 3, 1) := by decide +kernel
theorem dX11_behindSet_32 : decode cX11_behindSet 32 = .ok (.iadd, 1) := by decide +kernel
theorem dX11_behindSet_33 : decode cX11_behindSet 33 = .ok (.iaload, 1) := by decide +kernel
theorem dX11_behindSet_34 : decode cX11_behindSet 34 = .ok (.ishl, 1) := by decide +kernel
theorem dX11_behindSet_35 : decode cX11_behindSet 35 = .ok (.iconst 1, 1) := by decide +kernel
theorem dX11_behindSet_36 : decode cX11_behindSet 36 = .ok (.aload_n 0, 1) := by decide +kernel
theorem dX11_behindSet_37 : decode cX11_behindSet 37 = .ok (.getfield 35, 3) := by decide +kernel
theorem dX11_behindSet_40 : decode cX11_behindSet 40 = .ok (.sipush 164, 3) := by decide +kernel
theorem dX11_behindSet_43 : decode cX11_behindSet 43 = .ok (.iload_n 3, 1) := by decide +kernel
theorem dX11_behindSet_44 : decode cX11_behindSet 44 = .ok (.iadd, 1) := by decide +kernel
theorem dX11_behindSet_45 : decode cX11_behindSet 45 = .ok (.iaload, 1) := by decide +kernel
theorem dX11_behindSet_46 : decode cX11_behindSet 46 = .ok (.ishl, 1) := by decide +kernel
theorem dX11_behindSet_47 : decode cX11_behindSet 47 = .ok (.ior, 1) := by decide +kernel
theorem dX11_behindSet_48 : decode cX11_behindSet 48 = .ok (.goto 4, 3) := by decide +kernel
theorem dX11_behindSet_51 : decode cX11_behindSet 51 = .ok (.iconst 0, 1) := by decide +kernel
theorem dX11_behindSet_52 : decode cX11_behindSet 52 = .ok (.ior, 1) := by decide +kernel
theorem dX11_behindSet_53 : decode cX11_behindSet 53 = .ok (.istore_n 2, 1) := by decide +kernel
theorem dX11_behindSet_54 : decode cX11_behindSet 54 = .ok (.iinc 3 1, 3) := by decide +kernel
theorem dX11_behindSet_57 : decode cX11_behindSet 57 = .ok (.goto (-53), 3) := by decide +kernel
theorem dX11_behindSet_60 : decode cX11_behindSet 60 = .ok (.iload_n 2, 1) := by decide +kernel
theorem dX11_behindSet_61 : decode cX11_behindSet 61 = .ok (.ireturn, 1) := by decide +kernel
set_option maxRecDepth 20000 in
theorem ggX11_way_X11_isWeatherAt : GoodIn wsX11_way wsX11_isWeatherAt := goodIn_r _ [8, 3, 9, 10, 7, 11, 23, 24, 25, 26, 27, 28, 29, 30, 31, 32, 33, 34, 35, 36, 37, 38, 39, 40, 41, 42, 43, 44, 45, 46, 47, 48, 49, 50, 51, 52, 53, 54, 55, 56, 57, 58, 59, 60, 61, 62, 63, 64, 65, 66, 67, 68] (by decide +kernel) (by decide +kernel)
set_option maxRecDepth 20000 in
theorem gX11_way_X11_isWeatherAt : GoodIn wsX11_way (wsV RX11 346 RX11 yX11_isWeatherAt wsX11_isWeatherAt) := goodIn_app (goodIn_of _ (by decide +kernel)) ggX11_way_X11_isWeatherAt
set_option maxRecDepth 20000 in
theorem ggX11_way_X11_refuse : GoodIn wsX11_way wsX11_refuse := goodIn_r _ [15, 2, 23, 24, 25, 26, 27, 28, 29, 30, 31, 32, 33, 34, 35, 36, 37, 38, 39, 40, 41, 42, 43, 44, 45, 46, 47, 48, 49, 50, 51, 52, 53, 54, 55, 56, 57, 58, 59, 60, 61, 62, 63, 64, 65, 66, 67, 68] (by decide +kernel) (by decide +kernel)
set_option maxRecDepth 20000 in
theorem gX11_way_X11_refuse : GoodIn wsX11_way (wsV RX11 340 RX11 yX11_refuse wsX11_refuse) := goodIn_app (goodIn_of _ (by decide +kernel)) ggX11_way_X11_refuse
set_option maxRecDepth 20000 in
theorem ggX11_way_X11_has : GoodIn wsX11_way wsX11_has := goodIn_r _ [18] (by decide +kernel) (by decide +kernel)
set_option maxRecDepth 20000 in
theorem gX11_way_X11_has : GoodIn wsX11_way (va_wsS RX11 110 yX11_has wsX11_has) := goodIn_app (goodIn_of _ (by decide +kernel)) ggX11_way_X11_has
set_option maxRecDepth 20000 in
theorem ggX11_way_X11_behindSet : GoodIn wsX11_way wsX11_behindSet := goodIn_r _ [22, 3, 16, 17, 7, 18, 23, 24, 25, 26, 27, 28, 29, 30, 31, 32, 33, 34, 35, 36, 37, 38, 39, 40, 41, 42, 43, 44, 45, 46, 47, 48, 49, 50, 51, 52, 53, 54, 55, 56, 57, 58, 59, 60, 61, 62, 63, 64, 65, 66, 67, 68] (by decide +kernel) (by decide +kernel)
set_option maxRecDepth 20000 in
theorem gX11_way_X11_behindSet : GoodIn wsX11_way (wsV RX11 463 RX11 yX11_behindSet wsX11_behindSet) := goodIn_app (goodIn_of _ (by decide +kernel)) ggX11_way_X11_behindSet
theorem dX11_way_0 : decode cX11_way 0 = .ok (.aload_n 0, 1) := by decide +kernel
theorem dX11_way_1 : decode cX11_way 1 = .ok (.iconst 0, 1) := by decide +kernel
theorem dX11_way_2 : decode cX11_way 2 = .ok (.putfield 71, 3) := by decide +kernel
theorem dX11_way_5 : decode cX11_way 5 = .ok (.aload_n 0, 1) := by decide +kernel
theorem dX11_way_6 : decode cX11_way 6 = .ok (.iconst 0, 1) := by decide +kernel
theorem dX11_way_7 : decode cX11_way 7 = .ok (.putfield 74, 3) := by decide +kernel
theorem dX11_way_10 : decode cX11_way 10 = .ok (.aload_n 0, 1) := by decide +kernel
theorem dX11_way_11 : decode cX11_way 11 = .ok (.iload_n 1, 1) := by decide +kernel
theorem dX11_way_12 : decode cX11_way 12 = .ok (.invokevirtual 346, 3) := by decide +kernel
theorem dX11_way_15 : decode cX11_way 15 = .ok (.ifCond .ne 9, 3) := by decide +kernel
theorem dX11_way_18 : decode cX11_way 18 = .ok (.aload_n 0, 1) := by decide +kernel
theorem dX11_way_19 : decode cX11_way 19 = .ok (.iconst 2, 1) := by decide +kernel
theorem dX11_way_20 : decode cX11_way 20 = .ok (.invokevirtual 340, 3) := by decide +kernel
theorem dX11_way_23 : decode cX11_way 23 = .ok (.ireturn, 1) := by decide +kernel
theorem dX11_way_24 : decode cX11_way 24 = .ok (.iconst 1, 1) := by decide +kernel
theorem dX11_way_25 : decode cX11_way 25 = .ok (.aload_n 0, 1) := by decide +kernel
theorem dX11_way_26 : decode cX11_way 26 = .ok (.getfield 35, 3) := by decide +kernel
theorem dX11_way_29 : decode cX11_way 29 = .ok (.bipush 8, 2) := by decide +kernel
theorem dX11_way_31 : decode cX11_way 31 = .ok (.iaload, 1) := by decide +kernel
theorem dX11_way_32 : decode cX11_way 32 = .ok (.ishl, 1) := by decide +kernel
theorem dX11_way_33 : decode cX11_way 33 = .ok (.istore_n 2, 1) := by decide +kernel
theorem dX11_way_34 : decode cX11_way 34 = .ok (.iconst 0, 1) := by decide +kernel
theorem dX11_way_35 : decode cX11_way 35 = .ok (.istore_n 3, 1) := by decide +kernel
theorem dX11_way_36 : decode cX11_way 36 = .ok (.iload_n 3, 1) := by decide +kernel
theorem dX11_way_37 : decode cX11_way 37 = .ok (.bipush 6, 2) := by decide +kernel
theorem dX11_way_39 : decode cX11_way 39 = .ok (.if_icmp .gt 27, 3) := by decide +kernel
theorem dX11_way_42 : decode cX11_way 42 = .ok (.iload_n 2, 1) := by decide +kernel
theorem dX11_way_43 : decode cX11_way 43 = .ok (.iload_n 1, 1) := by decide +kernel
theorem dX11_way_44 : decode cX11_way 44 = .ok (.invokestatic 110, 3) := by decide +kernel
theorem dX11_way_47 : decode cX11_way 47 = .ok (.ifCond .eq 5, 3) := by decide +kernel
theorem dX11_way_50 : decode cX11_way 50 = .ok (.iload_n 3, 1) := by decide +kernel
theorem dX11_way_51 : decode cX11_way 51 = .ok (.ireturn, 1) := by decide +kernel
theorem dX11_way_52 : decode cX11_way 52 = .ok (.iload_n 2, 1) := by decide +kernel
theorem dX11_way_53 : decode cX11_way 53 = .ok (.aload_n 0, 1) := by decide +kernel
theorem dX11_way_54 : decode cX11_way 54 = .ok (.iload_n 2, 1) := by decide +kernel
theorem dX11_way_55 : decode cX11_way 55 = .ok (.invokevirtual 463, 3) := by decide +kernel
theorem dX11_way_58 : decode cX11_way 58 = .ok (.ior, 1) := by decide +kernel
theorem dX11_way_59 : decode cX11_way 59 = .ok (.istore_n 2, 1) := by decide +kernel
theorem dX11_way_60 : decode cX11_way 60 = .ok (.iinc 3 1, 3) := by decide +kernel
theorem dX11_way_63 : decode cX11_way 63 = .ok (.goto (-27), 3) := by decide +kernel
theorem dX11_way_66 : decode cX11_way 66 = .ok (.aload_n 0, 1) := by decide +kernel
theorem dX11_way_67 : decode cX11_way 67 = .ok (.bipush 8, 2) := by decide +kernel
theorem dX11_way_69 : decode cX11_way 69 = .ok (.invokevirtual 340, 3) := by decide +kernel
theorem dX11_way_72 : decode cX11_way 72 = .ok (.ireturn, 1) := by decide +kernel
set_option maxRecDepth 20000 in
theorem ggX11_reach_X11_behindSet : GoodIn wsX11_reach wsX11_behindSet := goodIn_r _ [8, 3, 9, 10, 7, 11, 12, 13, 14, 15, 16, 17, 18, 19, 20, 21, 22, 23, 24, 25, 26, 27, 28, 29, 30, 31, 32, 33, 34, 35, 36, 37, 38, 39, 40, 41, 42, 43, 44, 45, 46, 47, 48, 49, 50, 51, 52, 53, 54, 55, 56, 57] (by decide +kernel) (by decide +kernel)
set_option maxRecDepth 20000 in
theorem gX11_reach_X11_behindSet : GoodIn wsX11_reach (wsV RX11 463 RX11 yX11_behindSet wsX11_behindSet) := goodIn_app (goodIn_of _ (by decide +kernel)) ggX11_reach_X11_behindSet
theorem dX11_reach_0 : decode cX11_reach 0 = .ok (.aload_n 0, 1) := by decide +kernel
theorem dX11_reach_1 : decode cX11_reach 1 = .ok (.iconst 0, 1) := by decide +kernel
theorem dX11_reach_2 : decode cX11_reach 2 = .ok (.putfield 71, 3) := by decide +kernel
theorem dX11_reach_5 : decode cX11_reach 5 = .ok (.aload_n 0, 1) := by decide +kernel
theorem dX11_reach_6 : decode cX11_reach 6 = .ok (.iconst 0, 1) := by decide +kernel
theorem dX11_reach_7 : decode cX11_reach 7 = .ok (.putfield 74, 3) := by decide +kernel
theorem dX11_reach_10 : decode cX11_reach 10 = .ok (.aload_n 0, 1) := by decide +kernel
theorem dX11_reach_11 : decode cX11_reach 11 = .ok (.getfield 35, 3) := by decide +kernel
theorem dX11_reach_14 : decode cX11_reach 14 = .ok (.bipush 8, 2) := by decide +kernel
theorem dX11_reach_16 : decode cX11_reach 16 = .ok (.iaload, 1) := by decide +kernel
theorem dX11_reach_17 : decode cX11_reach 17 = .ok (.ifCond .ge 7, 3) := by decide +kernel
theorem dX11_reach_20 : decode cX11_reach 20 = .ok (.iconst 0, 1) := by decide +kernel
theorem dX11_reach_21 : decode cX11_reach 21 = .ok (.goto 12, 3) := by decide +kernel
theorem dX11_reach_24 : decode cX11_reach 24 = .ok (.iconst 1, 1) := by decide +kernel
theorem dX11_reach_25 : decode cX11_reach 25 = .ok (.aload_n 0, 1) := by decide +kernel
theorem dX11_reach_26 : decode cX11_reach 26 = .ok (.getfield 35, 3) := by decide +kernel
theorem dX11_reach_29 : decode cX11_reach 29 = .ok (.bipush 8, 2) := by decide +kernel
theorem dX11_reach_31 : decode cX11_reach 31 = .ok (.iaload, 1) := by decide +kernel
theorem dX11_reach_32 : decode cX11_reach 32 = .ok (.ishl, 1) := by decide +kernel
theorem dX11_reach_33 : decode cX11_reach 33 = .ok (.istore_n 1, 1) := by decide +kernel
theorem dX11_reach_34 : decode cX11_reach 34 = .ok (.iconst 0, 1) := by decide +kernel
theorem dX11_reach_35 : decode cX11_reach 35 = .ok (.istore_n 2, 1) := by decide +kernel
theorem dX11_reach_36 : decode cX11_reach 36 = .ok (.iload_n 2, 1) := by decide +kernel
theorem dX11_reach_37 : decode cX11_reach 37 = .ok (.bipush 6, 2) := by decide +kernel
theorem dX11_reach_39 : decode cX11_reach 39 = .ok (.if_icmp .ge 17, 3) := by decide +kernel
theorem dX11_reach_42 : decode cX11_reach 42 = .ok (.iload_n 1, 1) := by decide +kernel
theorem dX11_reach_43 : decode cX11_reach 43 = .ok (.aload_n 0, 1) := by decide +kernel
theorem dX11_reach_44 : decode cX11_reach 44 = .ok (.iload_n 1, 1) := by decide +kernel
theorem dX11_reach_45 : decode cX11_reach 45 = .ok (.invokevirtual 463, 3) := by decide +kernel
theorem dX11_reach_48 : decode cX11_reach 48 = .ok (.ior, 1) := by decide +kernel
theorem dX11_reach_49 : decode cX11_reach 49 = .ok (.istore_n 1, 1) := by decide +kernel
theorem dX11_reach_50 : decode cX11_reach 50 = .ok (.iinc 2 1, 3) := by decide +kernel
theorem dX11_reach_53 : decode cX11_reach 53 = .ok (.goto (-17), 3) := by decide +kernel
theorem dX11_reach_56 : decode cX11_reach 56 = .ok (.iload_n 1, 1) := by decide +kernel
theorem dX11_reach_57 : decode cX11_reach 57 = .ok (.ireturn, 1) := by decide +kernel
set_option maxRecDepth 20000 in
theorem ggX11_harvests_X11_behindOf : GoodIn wsX11_harvests wsX11_behindOf := goodIn_r _ [11, 2, 16, 17, 18, 19, 20, 21, 22, 23, 24, 25, 26, 27, 28, 29, 30, 31, 32, 33, 34, 35, 36, 37, 38, 39, 40, 41, 42, 43, 44, 45, 46, 47, 48, 49, 50, 51, 52, 53, 54, 55, 56, 57, 58, 59, 60, 61] (by decide +kernel) (by decide +kernel)
set_option maxRecDepth 20000 in
theorem gX11_harvests_X11_behindOf : GoodIn wsX11_harvests (wsV RX11 349 RX11 yX11_behindOf wsX11_behindOf) := goodIn_app (goodIn_of _ (by decide +kernel)) ggX11_harvests_X11_behindOf
set_option maxRecDepth 20000 in
theorem ggX11_harvests_X11_growsOn : GoodIn wsX11_harvests wsX11_growsOn := goodIn_r _ [15, 2, 16, 17, 18, 19, 20, 21, 22, 23, 24, 25, 26, 27, 28, 29, 30, 31, 32, 33, 34, 35, 36, 37, 38, 39, 40, 41, 42, 43, 44, 45, 46, 47, 48, 49, 50, 51, 52, 53, 54, 55, 56, 57, 58, 59, 60, 61] (by decide +kernel) (by decide +kernel)
set_option maxRecDepth 20000 in
theorem gX11_harvests_X11_growsOn : GoodIn wsX11_harvests (wsV RX11 355 RX11 yX11_growsOn wsX11_growsOn) := goodIn_app (goodIn_of _ (by decide +kernel)) ggX11_harvests_X11_growsOn
theorem dX11_harvests_0 : decode cX11_harvests 0 = .ok (.iconst 0, 1) := by decide +kernel
theorem dX11_harvests_1 : decode cX11_harvests 1 = .ok (.istore_n 3, 1) := by decide +kernel
theorem dX11_harvests_2 : decode cX11_harvests 2 = .ok (.iload_n 3, 1) := by decide +kernel
theorem dX11_harvests_3 : decode cX11_harvests 3 = .ok (.bipush 6, 2) := by decide +kernel
theorem dX11_harvests_5 : decode cX11_harvests 5 = .ok (.if_icmp .ge 16, 3) := by decide +kernel
theorem dX11_harvests_8 : decode cX11_harvests 8 = .ok (.aload_n 0, 1) := by decide +kernel
theorem dX11_harvests_9 : decode cX11_harvests 9 = .ok (.getfield 62, 3) := by decide +kernel
theorem dX11_harvests_12 : decode cX11_harvests 12 = .ok (.iload_n 3, 1) := by decide +kernel
theorem dX11_harvests_13 : decode cX11_harvests 13 = .ok (.iconst 0, 1) := by decide +kernel
theorem dX11_harvests_14 : decode cX11_harvests 14 = .ok (.iastore, 1) := by decide +kernel
theorem dX11_harvests_15 : decode cX11_harvests 15 = .ok (.iinc 3 1, 3) := by decide +kernel
theorem dX11_harvests_18 : decode cX11_harvests 18 = .ok (.goto (-16), 3) := by decide +kernel
theorem dX11_harvests_21 : decode cX11_harvests 21 = .ok (.iconst 1, 1) := by decide +kernel
theorem dX11_harvests_22 : decode cX11_harvests 22 = .ok (.istore_n 3, 1) := by decide +kernel
theorem dX11_harvests_23 : decode cX11_harvests 23 = .ok (.iload_n 3, 1) := by decide +kernel
theorem dX11_harvests_24 : decode cX11_harvests 24 = .ok (.iload_n 2, 1) := by decide +kernel
theorem dX11_harvests_25 : decode cX11_harvests 25 = .ok (.if_icmp .gt 109, 3) := by decide +kernel
theorem dX11_harvests_28 : decode cX11_harvests 28 = .ok (.iconst 0, 1) := by decide +kernel
theorem dX11_harvests_29 : decode cX11_harvests 29 = .ok (.istore 4, 2) := by decide +kernel
theorem dX11_harvests_31 : decode cX11_harvests 31 = .ok (.iload 4, 2) := by decide +kernel
theorem dX11_harvests_33 : decode cX11_harvests 33 = .ok (.aload_n 0, 1) := by decide +kernel
theorem dX11_harvests_34 : decode cX11_harvests 34 = .ok (.getfield 35, 3) := by decide +kernel
theorem dX11_harvests_37 : decode cX11_harvests 37 = .ok (.iconst 2, 1) := by decide +kernel
theorem dX11_harvests_38 : decode cX11_harvests 38 = .ok (.iaload, 1) := by decide +kernel
theorem dX11_harvests_39 : decode cX11_harvests 39 = .ok (.if_icmp .ge 89, 3) := by decide +kernel
theorem dX11_harvests_42 : decode cX11_harvests 42 = .ok (.aload_n 0, 1) := by decide +kernel
theorem dX11_harvests_43 : decode cX11_harvests 43 = .ok (.getfield 62, 3) := by decide +kernel
theorem dX11_harvests_46 : decode cX11_harvests 46 = .ok (.bipush 6, 2) := by decide +kernel
theorem dX11_harvests_48 : decode cX11_harvests 48 = .ok (.iload_n 3, 1) := by decide +kernel
theorem dX11_harvests_49 : decode cX11_harvests 49 = .ok (.iconst 1, 1) := by decide +kernel
theorem dX11_harvests_50 : decode cX11_harvests 50 = .ok (.isub, 1) := by decide +kernel
theorem dX11_harvests_51 : decode cX11_harvests 51 = .ok (.imul, 1) := by decide +kernel
theorem dX11_harvests_52 : decode cX11_harvests 52 = .ok (.iload 4, 2) := by decide +kernel
theorem dX11_harvests_54 : decode cX11_harvests 54 = .ok (.iadd, 1) := by decide +kernel
theorem dX11_harvests_55 : decode cX11_harvests 55 = .ok (.iaload, 1) := by decide +kernel
theorem dX11_harvests_56 : decode cX11_harvests 56 = .ok (.istore 5, 2) := by decide +kernel
theorem dX11_harvests_58 : decode cX11_harvests 58 = .ok (.iconst (-1), 1) := by decide +kernel
theorem dX11_harvests_59 : decode cX11_harvests 59 = .ok (.istore 6, 2) := by decide +kernel
theorem dX11_harvests_61 : decode cX11_harvests 61 = .ok (.iload 6, 2) := by decide +kernel
theorem dX11_harvests_63 : decode cX11_harvests 63 = .ok (.iconst 2, 1) := by decide +kernel
theorem dX11_harvests_64 : decode cX11_harvests 64 = .ok (.if_icmp .ge 36, 3) := by decide +kernel
theorem dX11_harvests_67 : decode cX11_harvests 67 = .ok (.iload 5, 2) := by decide +kernel
theorem dX11_harvests_69 : decode cX11_harvests 69 = .ok (.aload_n 0, 1) := by decide +kernel
theorem dX11_harvests_70 : decode cX11_harvests 70 = .ok (.getfield 62, 3) := by decide +kernel
theorem dX11_harvests_73 : decode cX11_harvests 73 = .ok (.bipush 6, 2) := by decide +kernel
theorem dX11_harvests_75 : decode cX11_harvests 75 = .ok (.iload_n 3, 1) := by decide +kernel
theorem dX11_harvests_76 : decode cX11_harvests 76 = .ok (.iconst 1, 1) := by decide +kernel
theorem dX11_harvests_77 : decode cX11_harvests 77 = .ok (.isub, 1) := by decide +kernel
theorem dX11_harvests_78 : decode cX11_harvests 78 = .ok (.imul, 1) := by decide +kernel
theorem dX11_harvests_79 : decode cX11_harvests 79 = .ok (.aload_n 0, 1) := by decide +kernel
theorem dX11_harvests_80 : decode cX11_harvests 80 = .ok (.iload 4, 2) := by decide +kernel
theorem dX11_harvests_82 : decode cX11_harvests 82 = .ok (.iload 6, 2) := by decide +kernel
theorem dX11_harvests_84 : decode cX11_harvests 84 = .ok (.invokevirtual 349, 3) := by decide +kernel
theorem dX11_harvests_87 : decode cX11_harvests 87 = .ok (.iadd, 1) := by decide +kernel
theorem dX11_harvests_88 : decode cX11_harvests 88 = .ok (.iaload, 1) := by decide +kernel
theorem dX11_harvests_89 : decode cX11_harvests 89 = .ok (.invokestatic 264, 3) := by decide +kernel
theorem dX11_harvests_92 : decode cX11_harvests 92 = .ok (.istore 5, 2) := by decide +kernel
theorem dX11_harvests_94 : decode cX11_harvests 94 = .ok (.iinc 6 2, 3) := by decide +kernel
theorem dX11_harvests_97 : decode cX11_harvests 97 = .ok (.goto (-36), 3) := by decide +kernel
theorem dX11_harvests_100 : decode cX11_harvests 100 = .ok (.aload_n 0, 1) := by decide +kernel
theorem dX11_harvests_101 : decode cX11_harvests 101 = .ok (.getfield 62, 3) := by decide +kernel
theorem dX11_harvests_104 : decode cX11_harvests 104 = .ok (.bipush 6, 2) := by decide +kernel
theorem dX11_harvests_106 : decode cX11_harvests 106 = .ok (.iload_n 3, 1) := by decide +kernel
theorem dX11_harvests_107 : decode cX11_harvests 107 = .ok (.imul, 1) := by decide +kernel
theorem dX11_harvests_108 : decode cX11_harvests 108 = .ok (.iload 4, 2) := by decide +kernel
theorem dX11_harvests_110 : decode cX11_harvests 110 = .ok (.iadd, 1) := by decide +kernel
theorem dX11_harvests_111 : decode cX11_harvests 111 = .ok (.iload 5, 2) := by decide +kernel
theorem dX11_harvests_113 : decode cX11_harvests 113 = .ok (.aload_n 0, 1) := by decide +kernel
theorem dX11_harvests_114 : decode cX11_harvests 114 = .ok (.iload_n 1, 1) := by decide +kernel
theorem dX11_harvests_115 : decode cX11_harvests 115 = .ok (.iload 4, 2) := by decide +kernel
theorem dX11_harvests_117 : decode cX11_harvests 117 = .ok (.invokevirtual 355, 3) := by decide +kernel
theorem dX11_harvests_120 : decode cX11_harvests 120 = .ok (.iadd, 1) := by decide +kernel
theorem dX11_harvests_121 : decode cX11_harvests 121 = .ok (.iastore, 1) := by decide +kernel
theorem dX11_harvests_122 : decode cX11_harvests 122 = .ok (.iinc 4 1, 3) := by decide +kernel
theorem dX11_harvests_125 : decode cX11_harvests 125 = .ok (.goto (-94), 3) := by decide +kernel
theorem dX11_harvests_128 : decode cX11_harvests 128 = .ok (.iinc 3 1, 3) := by decide +kernel
theorem dX11_harvests_131 : decode cX11_harvests 131 = .ok (.goto (-108), 3) := by decide +kernel
theorem dX11_harvests_134 : decode cX11_harvests 134 = .ok (.return_, 1) := by decide +kernel
set_option maxRecDepth 20000 in
theorem ggX11_whyNoHarvest_X11_isCropAt : GoodIn wsX11_whyNoHarvest wsX11_isCropAt := goodIn_r _ [7, 2, 8, 9, 6, 10, 11, 12, 13, 14, 15, 16, 17, 18, 19, 20, 21, 22, 23, 24, 25, 26, 27, 28, 29, 30, 31, 32, 33, 34, 35, 36, 37, 38, 39, 40, 41, 42, 43, 44, 45, 46, 47, 48, 49, 50, 51, 52, 53, 54, 55, 56] (by decide +kernel) (by decide +kernel)
set_option maxRecDepth 20000 in
theorem gX11_whyNoHarvest_X11_isCropAt : GoodIn wsX11_whyNoHarvest (wsV RX11 352 RX11 yX11_isCropAt wsX11_isCropAt) := goodIn_app (goodIn_of _ (by decide +kernel)) ggX11_whyNoHarvest_X11_isCropAt
set_option maxRecDepth 20000 in
theorem ggX11_whyNoHarvest_X11_isIn : GoodIn wsX11_whyNoHarvest wsX11_isIn := goodIn_r _ [10] (by decide +kernel) (by decide +kernel)
set_option maxRecDepth 20000 in
theorem gX11_whyNoHarvest_X11_isIn : GoodIn wsX11_whyNoHarvest (va_wsS RX11 106 yX11_isIn wsX11_isIn) := goodIn_app (goodIn_of _ (by decide +kernel)) ggX11_whyNoHarvest_X11_isIn
theorem dX11_whyNoHarvest_0 : decode cX11_whyNoHarvest 0 = .ok (.aload_n 0, 1) := by decide +kernel
theorem dX11_whyNoHarvest_1 : decode cX11_whyNoHarvest 1 = .ok (.iload_n 1, 1) := by decide +kernel
theorem dX11_whyNoHarvest_2 : decode cX11_whyNoHarvest 2 = .ok (.invokevirtual 352, 3) := by decide +kernel
theorem dX11_whyNoHarvest_5 : decode cX11_whyNoHarvest 5 = .ok (.ifCond .ne 7, 3) := by decide +kernel
theorem dX11_whyNoHarvest_8 : decode cX11_whyNoHarvest 8 = .ok (.iconst 2, 1) := by decide +kernel
theorem dX11_whyNoHarvest_9 : decode cX11_whyNoHarvest 9 = .ok (.goto 35, 3) := by decide +kernel
theorem dX11_whyNoHarvest_12 : decode cX11_whyNoHarvest 12 = .ok (.iload_n 2, 1) := by decide +kernel
theorem dX11_whyNoHarvest_13 : decode cX11_whyNoHarvest 13 = .ok (.i2l, 1) := by decide +kernel
theorem dX11_whyNoHarvest_14 : decode cX11_whyNoHarvest 14 = .ok (.lconst 1, 1) := by decide +kernel
theorem dX11_whyNoHarvest_15 : decode cX11_whyNoHarvest 15 = .ok (.ldc2_w 165, 3) := by decide +kernel
theorem dX11_whyNoHarvest_18 : decode cX11_whyNoHarvest 18 = .ok (.invokestatic 106, 3) := by decide +kernel
theorem dX11_whyNoHarvest_21 : decode cX11_whyNoHarvest 21 = .ok (.ifCond .ne 7, 3) := by decide +kernel
theorem dX11_whyNoHarvest_24 : decode cX11_whyNoHarvest 24 = .ok (.iconst 5, 1) := by decide +kernel
theorem dX11_whyNoHarvest_25 : decode cX11_whyNoHarvest 25 = .ok (.goto 19, 3) := by decide +kernel
theorem dX11_whyNoHarvest_28 : decode cX11_whyNoHarvest 28 = .ok (.aload_n 0, 1) := by decide +kernel
theorem dX11_whyNoHarvest_29 : decode cX11_whyNoHarvest 29 = .ok (.getfield 35, 3) := by decide +kernel
theorem dX11_whyNoHarvest_32 : decode cX11_whyNoHarvest 32 = .ok (.bipush 8, 2) := by decide +kernel
theorem dX11_whyNoHarvest_34 : decode cX11_whyNoHarvest 34 = .ok (.iaload, 1) := by decide +kernel
theorem dX11_whyNoHarvest_35 : decode cX11_whyNoHarvest 35 = .ok (.ifCond .ge 8, 3) := by decide +kernel
theorem dX11_whyNoHarvest_38 : decode cX11_whyNoHarvest 38 = .ok (.bipush 8, 2) := by decide +kernel
theorem dX11_whyNoHarvest_40 : decode cX11_whyNoHarvest 40 = .ok (.goto 4, 3) := by decide +kernel
theorem dX11_whyNoHarvest_43 : decode cX11_whyNoHarvest 43 = .ok (.iconst 0, 1) := by decide +kernel
theorem dX11_whyNoHarvest_44 : decode cX11_whyNoHarvest 44 = .ok (.ireturn, 1) := by decide +kernel
set_option maxRecDepth 20000 in
theorem ggX11_harvest_X11_whyNoHarvest : GoodIn wsX11_harvest wsX11_whyNoHarvest := goodIn_r _ [9, 10, 4, 11, 12, 13, 8, 14, 15, 16, 17, 34, 35, 36, 37, 38, 39, 40, 41, 42, 43, 44, 45, 46, 47, 48, 49, 50, 51, 52, 53, 54, 55, 56, 57, 58, 59, 60, 61, 62, 63, 64, 65, 66, 67, 68, 69, 70, 71, 72, 73, 74, 75, 76, 77, 78, 79] (by decide +kernel) (by decide +kernel)
set_option maxRecDepth 20000 in
theorem gX11_harvest_X11_whyNoHarvest : GoodIn wsX11_harvest (wsV RX11 466 RX11 yX11_whyNoHarvest wsX11_whyNoHarvest) := goodIn_app (goodIn_of _ (by decide +kernel)) ggX11_harvest_X11_whyNoHarvest
set_option maxRecDepth 20000 in
theorem ggX11_harvest_X11_harvests : GoodIn wsX11_harvest wsX11_harvests := goodIn_r _ [21, 3, 4, 22, 23, 24, 25, 26, 27, 28, 8, 29, 30, 31, 32, 33, 34, 35, 36, 37, 38, 39, 40, 41, 42, 43, 44, 45, 46, 47, 48, 49, 50, 51, 52, 53, 54, 55, 56, 57, 58, 59, 60, 61, 62, 63, 64, 65, 66, 67, 68, 69, 70, 71, 72, 73, 74, 75, 76, 77, 78, 79] (by decide +kernel) (by decide +kernel)
set_option maxRecDepth 20000 in
theorem gX11_harvest_X11_harvests : GoodIn wsX11_harvest (wsV RX11 469 RX11 yX11_harvests wsX11_harvests) := goodIn_app (goodIn_of _ (by decide +kernel)) ggX11_harvest_X11_harvests
theorem dX11_harvest_0 : decode cX11_harvest 0 = .ok (.aload_n 0, 1) := by decide +kernel
theorem dX11_harvest_1 : decode cX11_harvest 1 = .ok (.iconst 0, 1) := by decide +kernel
theorem dX11_harvest_2 : decode cX11_harvest 2 = .ok (.putfield 71, 3) := by decide +kernel
theorem dX11_harvest_5 : decode cX11_harvest 5 = .ok (.aload_n 0, 1) := by decide +kernel
theorem dX11_harvest_6 : decode cX11_harvest 6 = .ok (.aload_n 0, 1) := by decide +kernel
theorem dX11_harvest_7 : decode cX11_harvest 7 = .ok (.iload_n 1, 1) := by decide +kernel
theorem dX11_harvest_8 : decode cX11_harvest 8 = .ok (.iload_n 2, 1) := by decide +kernel
theorem dX11_harvest_9 : decode cX11_harvest 9 = .ok (.invokevirtual 466, 3) := by decide +kernel
theorem dX11_harvest_12 : decode cX11_harvest 12 = .ok (.putfield 74, 3) := by decide +kernel
theorem dX11_harvest_15 : decode cX11_harvest 15 = .ok (.aload_n 0, 1) := by decide +kernel
theorem dX11_harvest_16 : decode cX11_harvest 16 = .ok (.getfield 74, 3) := by decide +kernel
theorem dX11_harvest_19 : decode cX11_harvest 19 = .ok (.ifCond .le 5, 3) := by decide +kernel
theorem dX11_harvest_22 : decode cX11_harvest 22 = .ok (.iconst (-1), 1) := by decide +kernel
theorem dX11_harvest_23 : decode cX11_harvest 23 = .ok (.ireturn, 1) := by decide +kernel
theorem dX11_harvest_24 : decode cX11_harvest 24 = .ok (.aload_n 0, 1) := by decide +kernel
theorem dX11_harvest_25 : decode cX11_harvest 25 = .ok (.iload_n 1, 1) := by decide +kernel
theorem dX11_harvest_26 : decode cX11_harvest 26 = .ok (.iload_n 2, 1) := by decide +kernel
theorem dX11_harvest_27 : decode cX11_harvest 27 = .ok (.invokevirtual 469, 3) := by decide +kernel
theorem dX11_harvest_30 : decode cX11_harvest 30 = .ok (.aload_n 0, 1) := by decide +kernel
theorem dX11_harvest_31 : decode cX11_harvest 31 = .ok (.getfield 62, 3) := by decide +kernel
theorem dX11_harvest_34 : decode cX11_harvest 34 = .ok (.bipush 6, 2) := by decide +kernel
theorem dX11_harvest_36 : decode cX11_harvest 36 = .ok (.iload_n 2, 1) := by decide +kernel
theorem dX11_harvest_37 : decode cX11_harvest 37 = .ok (.imul, 1) := by decide +kernel
theorem dX11_harvest_38 : decode cX11_harvest 38 = .ok (.aload_n 0, 1) := by decide +kernel
theorem dX11_harvest_39 : decode cX11_harvest 39 = .ok (.getfield 35, 3) := by decide +kernel
theorem dX11_harvest_42 : decode cX11_harvest 42 = .ok (.bipush 8, 2) := by decide +kernel
theorem dX11_harvest_44 : decode cX11_harvest 44 = .ok (.iaload, 1) := by decide +kernel
theorem dX11_harvest_45 : decode cX11_harvest 45 = .ok (.iadd, 1) := by decide +kernel
theorem dX11_harvest_46 : decode cX11_harvest 46 = .ok (.iaload, 1) := by decide +kernel
theorem dX11_harvest_47 : decode cX11_harvest 47 = .ok (.ireturn, 1) := by decide +kernel
set_option maxRecDepth 20000 in
theorem ggX11_harvestNow_X11_whyNoHarvest : GoodIn wsX11_harvestNow wsX11_whyNoHarvest := goodIn_r _ [9, 10, 4, 11, 12, 13, 8, 14, 15, 16, 17, 34, 35, 36, 37, 38, 39, 40, 41, 42, 43, 44, 45, 46, 47, 48, 49, 50, 51, 52, 53, 54, 55, 56, 57, 58, 59, 60, 61, 62, 63, 64, 65, 66, 67, 68, 69, 70, 71, 72, 73, 74, 75, 76, 77, 78, 79] (by decide +kernel) (by decide +kernel)
set_option maxRecDepth 20000 in
theorem gX11_harvestNow_X11_whyNoHarvest : GoodIn wsX11_harvestNow (wsV RX11 466 RX11 yX11_whyNoHarvest wsX11_whyNoHarvest) := goodIn_app (goodIn_of _ (by decide +kernel)) ggX11_harvestNow_X11_whyNoHarvest
set_option maxRecDepth 20000 in
theorem ggX11_harvestNow_X11_harvests : GoodIn wsX11_harvestNow wsX11_harvests := goodIn_r _ [21, 3, 4, 22, 23, 24, 25, 26, 27, 28, 8, 29, 30, 31, 32, 33, 34, 35, 36, 37, 38, 39, 40, 41, 42, 43, 44, 45, 46, 47, 48, 49, 50, 51, 52, 53, 54, 55, 56, 57, 58, 59, 60, 61, 62, 63, 64, 65, 66, 67, 68, 69, 70, 71, 72, 73, 74, 75, 76, 77, 78, 79] (by decide +kernel) (by decide +kernel)
set_option maxRecDepth 20000 in
theorem gX11_harvestNow_X11_harvests : GoodIn wsX11_harvestNow (wsV RX11 469 RX11 yX11_harvests wsX11_harvests) := goodIn_app (goodIn_of _ (by decide +kernel)) ggX11_harvestNow_X11_harvests
set_option maxRecDepth 20000 in
theorem ggX11_harvestNow_X11_behindOf : GoodIn wsX11_harvestNow wsX11_behindOf := goodIn_r _ [29, 4, 34, 35, 36, 37, 38, 39, 40, 41, 42, 43, 44, 45, 46, 47, 48, 49, 50, 51, 52, 53, 54, 55, 56, 57, 58, 59, 60, 61, 62, 63, 64, 65, 66, 67, 68, 69, 70, 71, 72, 73, 74, 75, 76, 77, 78, 79] (by decide +kernel) (by decide +kernel)
set_option maxRecDepth 20000 in
theorem gX11_harvestNow_X11_behindOf : GoodIn wsX11_harvestNow (wsV RX11 349 RX11 yX11_behindOf wsX11_behindOf) := goodIn_app (goodIn_of _ (by decide +kernel)) ggX11_harvestNow_X11_behindOf
theorem dX11_harvestNow_0 : decode cX11_harvestNow 0 = .ok (.aload_n 0, 1) := by decide +kernel
theorem dX11_harvestNow_1 : decode cX11_harvestNow 1 = .ok (.iconst 0, 1) := by decide +kernel
theorem dX11_harvestNow_2 : decode cX11_harvestNow 2 = .ok (.putfield 71, 3) := by decide +kernel
theorem dX11_harvestNow_5 : decode cX11_harvestNow 5 = .ok (.aload_n 0, 1) := by decide +kernel
theorem dX11_harvestNow_6 : decode cX11_harvestNow 6 = .ok (.aload_n 0, 1) := by decide +kernel
theorem dX11_harvestNow_7 : decode cX11_harvestNow 7 = .ok (.iload_n 1, 1) := by decide +kernel
theorem dX11_harvestNow_8 : decode cX11_harvestNow 8 = .ok (.iload_n 2, 1) := by decide +kernel
theorem dX11_harvestNow_9 : decode cX11_harvestNow 9 = .ok (.invokevirtual 466, 3) := by decide +kernel
theorem dX11_harvestNow_12 : decode cX11_harvestNow 12 = .ok (.putfield 74, 3) := by decide +kernel
theorem dX11_harvestNow_15 : decode cX11_harvestNow 15 = .ok (.aload_n 0, 1) := by decide +kernel
theorem dX11_harvestNow_16 : decode cX11_harvestNow 16 = .ok (.getfield 74, 3) := by decide +kernel
theorem dX11_harvestNow_19 : decode cX11_harvestNow 19 = .ok (.ifCond .le 5, 3) := by decide +kernel
theorem dX11_harvestNow_22 : decode cX11_harvestNow 22 = .ok (.iconst (-1), 1) := by decide +kernel
theorem dX11_harvestNow_23 : decode cX11_harvestNow 23 = .ok (.ireturn, 1) := by decide +kernel
theorem dX11_harvestNow_24 : decode cX11_harvestNow 24 = .ok (.aload_n 0, 1) := by decide +kernel
theorem dX11_harvestNow_25 : decode cX11_harvestNow 25 = .ok (.iload_n 1, 1) := by decide +kernel
theorem dX11_harvestNow_26 : decode cX11_harvestNow 26 = .ok (.iload_n 2, 1) := by decide +kernel
theorem dX11_harvestNow_27 : decode cX11_harvestNow 27 = .ok (.invokevirtual 469, 3) := by decide +kernel
theorem dX11_harvestNow_30 : decode cX11_harvestNow 30 = .ok (.iconst 1, 1) := by decide +kernel
theorem dX11_harvestNow_31 : decode cX11_harvestNow 31 = .ok (.istore_n 3, 1) := by decide +kernel
theorem dX11_harvestNow_32 : decode cX11_harvestNow 32 = .ok (.iconst 0, 1) := by decide +kernel
theorem dX11_harvestNow_33 : decode cX11_harvestNow 33 = .ok (.istore 4, 2) := by decide +kernel
theorem dX11_harvestNow_35 : decode cX11_harvestNow 35 = .ok (.iload 4, 2) := by decide +kernel
theorem dX11_harvestNow_37 : decode cX11_harvestNow 37 = .ok (.bipush (-2), 2) := by decide +kernel
theorem dX11_harvestNow_39 : decode cX11_harvestNow 39 = .ok (.if_icmp .le 64, 3) := by decide +kernel
theorem dX11_harvestNow_42 : decode cX11_harvestNow 42 = .ok (.aload_n 0, 1) := by decide +kernel
theorem dX11_harvestNow_43 : decode cX11_harvestNow 43 = .ok (.getfield 62, 3) := by decide +kernel
theorem dX11_harvestNow_46 : decode cX11_harvestNow 46 = .ok (.bipush 6, 2) := by decide +kernel
theorem dX11_harvestNow_48 : decode cX11_harvestNow 48 = .ok (.iload_n 2, 1) := by decide +kernel
theorem dX11_harvestNow_49 : decode cX11_harvestNow 49 = .ok (.iconst 1, 1) := by decide +kernel
theorem dX11_harvestNow_50 : decode cX11_harvestNow 50 = .ok (.isub, 1) := by decide +kernel
theorem dX11_harvestNow_51 : decode cX11_harvestNow 51 = .ok (.imul, 1) := by decide +kernel
theorem dX11_harvestNow_52 : decode cX11_harvestNow 52 = .ok (.aload_n 0, 1) := by decide +kernel
theorem dX11_harvestNow_53 : decode cX11_harvestNow 53 = .ok (.aload_n 0, 1) := by decide +kernel
theorem dX11_harvestNow_54 : decode cX11_harvestNow 54 = .ok (.getfield 35, 3) := by decide +kernel
theorem dX11_harvestNow_57 : decode cX11_harvestNow 57 = .ok (.bipush 8, 2) := by decide +kernel
theorem dX11_harvestNow_59 : decode cX11_harvestNow 59 = .ok (.iaload, 1) := by decide +kernel
theorem dX11_harvestNow_60 : decode cX11_harvestNow 60 = .ok (.iload 4, 2) := by decide +kernel
theorem dX11_harvestNow_62 : decode cX11_harvestNow 62 = .ok (.invokevirtual 349, 3) := by decide +kernel
theorem dX11_harvestNow_65 : decode cX11_harvestNow 65 = .ok (.iadd, 1) := by decide +kernel
theorem dX11_harvestNow_66 : decode cX11_harvestNow 66 = .ok (.iaload, 1) := by decide +kernel
theorem dX11_harvestNow_67 : decode cX11_harvestNow 67 = .ok (.aload_n 0, 1) := by decide +kernel
theorem dX11_harvestNow_68 : decode cX11_harvestNow 68 = .ok (.getfield 62, 3) := by decide +kernel
theorem dX11_harvestNow_71 : decode cX11_harvestNow 71 = .ok (.bipush 6, 2) := by decide +kernel
theorem dX11_harvestNow_73 : decode cX11_harvestNow 73 = .ok (.iload_n 2, 1) := by decide +kernel
theorem dX11_harvestNow_74 : decode cX11_harvestNow 74 = .ok (.iconst 1, 1) := by decide +kernel
theorem dX11_harvestNow_75 : decode cX11_harvestNow 75 = .ok (.isub, 1) := by decide +kernel
theorem dX11_harvestNow_76 : decode cX11_harvestNow 76 = .ok (.imul, 1) := by decide +kernel
theorem dX11_harvestNow_77 : decode cX11_harvestNow 77 = .ok (.aload_n 0, 1) := by decide +kernel
theorem dX11_harvestNow_78 : decode cX11_harvestNow 78 = .ok (.aload_n 0, 1) := by decide +kernel
theorem dX11_harvestNow_79 : decode cX11_harvestNow 79 = .ok (.getfield 35, 3) := by decide +kernel
theorem dX11_harvestNow_82 : decode cX11_harvestNow 82 = .ok (.bipush 8, 2) := by decide +kernel
theorem dX11_harvestNow_84 : decode cX11_harvestNow 84 = .ok (.iaload, 1) := by decide +kernel
theorem dX11_harvestNow_85 : decode cX11_harvestNow 85 = .ok (.iload_n 3, 1) := by decide +kernel
theorem dX11_harvestNow_86 : decode cX11_harvestNow 86 = .ok (.invokevirtual 349, 3) := by decide +kernel
theorem dX11_harvestNow_89 : decode cX11_harvestNow 89 = .ok (.iadd, 1) := by decide +kernel
theorem dX11_harvestNow_90 : decode cX11_harvestNow 90 = .ok (.iaload, 1) := by decide +kernel
theorem dX11_harvestNow_91 : decode cX11_harvestNow 91 = .ok (.if_icmp .le 6, 3) := by decide +kernel
theorem dX11_harvestNow_94 : decode cX11_harvestNow 94 = .ok (.iload 4, 2) := by decide +kernel
theorem dX11_harvestNow_96 : decode cX11_harvestNow 96 = .ok (.istore_n 3, 1) := by decide +kernel
theorem dX11_harvestNow_97 : decode cX11_harvestNow 97 = .ok (.iinc 4 (-1), 3) := by decide +kernel
theorem dX11_harvestNow_100 : decode cX11_harvestNow 100 = .ok (.goto (-65), 3) := by decide +kernel
theorem dX11_harvestNow_103 : decode cX11_harvestNow 103 = .ok (.iload_n 3, 1) := by decide +kernel
theorem dX11_harvestNow_104 : decode cX11_harvestNow 104 = .ok (.ireturn, 1) := by decide +kernel
theorem dX11_draw_0 : decode cX11_draw 0 = .ok (.aload_n 0, 1) := by decide +kernel
theorem dX11_draw_1 : decode cX11_draw 1 = .ok (.aload_n 0, 1) := by decide +kernel
theorem dX11_draw_2 : decode cX11_draw 2 = .ok (.getfield 472, 3) := by decide +kernel
theorem dX11_draw_5 : decode cX11_draw 5 = .ok (.sipush 2927, 3) := by decide +kernel
theorem dX11_draw_8 : decode cX11_draw 8 = .ok (.imul, 1) := by decide +kernel
theorem dX11_draw_9 : decode cX11_draw 9 = .ok (.sipush 10627, 3) := by decide +kernel
theorem dX11_draw_12 : decode cX11_draw 12 = .ok (.iadd, 1) := by decide +kernel
theorem dX11_draw_13 : decode cX11_draw 13 = .ok (.ldc_w 475, 3) := by decide +kernel
theorem dX11_draw_16 : decode cX11_draw 16 = .ok (.irem, 1) := by decide +kernel
theorem dX11_draw_17 : decode cX11_draw 17 = .ok (.putfield 472, 3) := by decide +kernel
theorem dX11_draw_20 : decode cX11_draw 20 = .ok (.aload_n 0, 1) := by decide +kernel
theorem dX11_draw_21 : decode cX11_draw 21 = .ok (.getfield 472, 3) := by decide +kernel
theorem dX11_draw_24 : decode cX11_draw 24 = .ok (.bipush 8, 2) := by decide +kernel
theorem dX11_draw_26 : decode cX11_draw 26 = .ok (.idiv, 1) := by decide +kernel
theorem dX11_draw_27 : decode cX11_draw 27 = .ok (.iload_n 1, 1) := by decide +kernel
theorem dX11_draw_28 : decode cX11_draw 28 = .ok (.irem, 1) := by decide +kernel
theorem dX11_draw_29 : decode cX11_draw 29 = .ok (.ireturn, 1) := by decide +kernel
set_option maxRecDepth 20000 in
theorem ggX11_moods_X11_isSeated : GoodIn wsX11_moods wsX11_isSeated := goodIn_r _ [6, 1, 7, 8, 5, 9, 26, 27, 28, 29, 30, 31, 32, 33, 34, 35, 36, 37, 38, 39, 40, 41, 42, 43, 44, 45, 46, 47, 48, 49, 50, 51, 52, 53, 54, 55, 56, 57, 58, 59, 60, 61, 62, 63, 64, 65, 66, 67, 68, 69, 70, 71] (by decide +kernel) (by decide +kernel)
set_option maxRecDepth 20000 in
theorem gX11_moods_X11_isSeated : GoodIn wsX11_moods (wsV RX11 361 RX11 yX11_isSeated wsX11_isSeated) := goodIn_app (goodIn_of _ (by decide +kernel)) ggX11_moods_X11_isSeated
set_option maxRecDepth 20000 in
theorem ggX11_moods_X11_draw : GoodIn wsX11_moods wsX11_draw := goodIn_r _ [13, 14, 15, 26, 27, 28, 29, 30, 31, 32, 33, 34, 35, 36, 37, 38, 39, 40, 41, 42, 43, 44, 45, 46, 47, 48, 49, 50, 51, 52, 53, 54, 55, 56, 57, 58, 59, 60, 61, 62, 63, 64, 65, 66, 67, 68, 69, 70, 71] (by decide +kernel) (by decide +kernel)
set_option maxRecDepth 20000 in
theorem gX11_moods_X11_draw : GoodIn wsX11_moods (wsV RX11 476 RX11 yX11_draw wsX11_draw) := goodIn_app (goodIn_of _ (by decide +kernel)) ggX11_moods_X11_draw
set_option maxRecDepth 20000 in
theorem ggX11_moods_X11_cut_ : GoodIn wsX11_moods wsX11_cut_ := goodIn_r _ [18, 19, 20, 21, 22, 23, 24, 25] (by decide +kernel) (by decide +kernel)
set_option maxRecDepth 20000 in
theorem gX11_moods_X11_cut_ : GoodIn wsX11_moods (va_wsS RX11 366 yX11_cut_ wsX11_cut_) := goodIn_app (goodIn_of _ (by decide +kernel)) ggX11_moods_X11_cut_
theorem dX11_moods_0 : decode cX11_moods 0 = .ok (.iconst 0, 1) := by decide +kernel
theorem dX11_moods_1 : decode cX11_moods 1 = .ok (.istore_n 1, 1) := by decide +kernel
theorem dX11_moods_2 : decode cX11_moods 2 = .ok (.iload_n 1, 1) := by decide +kernel
theorem dX11_moods_3 : decode cX11_moods 3 = .ok (.aload_n 0, 1) := by decide +kernel
theorem dX11_moods_4 : decode cX11_moods 4 = .ok (.getfield 35, 3) := by decide +kernel
theorem dX11_moods_7 : decode cX11_moods 7 = .ok (.iconst 0, 1) := by decide +kernel
theorem dX11_moods_8 : decode cX11_moods 8 = .ok (.iaload, 1) := by decide +kernel
theorem dX11_moods_9 : decode cX11_moods 9 = .ok (.if_icmp .ge 47, 3) := by decide +kernel
theorem dX11_moods_12 : decode cX11_moods 12 = .ok (.aload_n 0, 1) := by decide +kernel
theorem dX11_moods_13 : decode cX11_moods 13 = .ok (.iload_n 1, 1) := by decide +kernel
theorem dX11_moods_14 : decode cX11_moods 14 = .ok (.invokevirtual 361, 3) := by decide +kernel
theorem dX11_moods_17 : decode cX11_moods 17 = .ok (.ifCond .eq 33, 3) := by decide +kernel
theorem dX11_moods_20 : decode cX11_moods 20 = .ok (.aload_n 0, 1) := by decide +kernel
theorem dX11_moods_21 : decode cX11_moods 21 = .ok (.getfield 35, 3) := by decide +kernel
theorem dX11_moods_24 : decode cX11_moods 24 = .ok (.bipush 42, 2) := by decide +kernel
theorem dX11_moods_26 : decode cX11_moods 26 = .ok (.iload_n 1, 1) := by decide +kernel
theorem dX11_moods_27 : decode cX11_moods 27 = .ok (.iadd, 1) := by decide +kernel
theorem dX11_moods_28 : decode cX11_moods 28 = .ok (.aload_n 0, 1) := by decide +kernel
theorem dX11_moods_29 : decode cX11_moods 29 = .ok (.getfield 35, 3) := by decide +kernel
theorem dX11_moods_32 : decode cX11_moods 32 = .ok (.bipush 42, 2) := by decide +kernel
theorem dX11_moods_34 : decode cX11_moods 34 = .ok (.iload_n 1, 1) := by decide +kernel
theorem dX11_moods_35 : decode cX11_moods 35 = .ok (.iadd, 1) := by decide +kernel
theorem dX11_moods_36 : decode cX11_moods 36 = .ok (.iaload, 1) := by decide +kernel
theorem dX11_moods_37 : decode cX11_moods 37 = .ok (.aload_n 0, 1) := by decide +kernel
theorem dX11_moods_38 : decode cX11_moods 38 = .ok (.bipush 9, 2) := by decide +kernel
theorem dX11_moods_40 : decode cX11_moods 40 = .ok (.invokevirtual 476, 3) := by decide +kernel
theorem dX11_moods_43 : decode cX11_moods 43 = .ok (.iadd, 1) := by decide +kernel
theorem dX11_moods_44 : decode cX11_moods 44 = .ok (.iconst 4, 1) := by decide +kernel
theorem dX11_moods_45 : decode cX11_moods 45 = .ok (.isub, 1) := by decide +kernel
theorem dX11_moods_46 : decode cX11_moods 46 = .ok (.invokestatic 366, 3) := by decide +kernel
theorem dX11_moods_49 : decode cX11_moods 49 = .ok (.iastore, 1) := by decide +kernel
theorem dX11_moods_50 : decode cX11_moods 50 = .ok (.iinc 1 1, 3) := by decide +kernel
theorem dX11_moods_53 : decode cX11_moods 53 = .ok (.goto (-51), 3) := by decide +kernel
theorem dX11_moods_56 : decode cX11_moods 56 = .ok (.return_, 1) := by decide +kernel
set_option maxRecDepth 20000 in
theorem ggX11_dayEnds_X11_endsDay : GoodIn wsX11_dayEnds wsX11_endsDay := goodIn_r _ [9, 1, 10, 11, 12, 8, 13, 14, 15, 16, 17, 18, 19, 20, 21, 22, 23, 24, 25, 26, 27, 28, 29, 30, 31, 32, 33, 34, 35, 36, 37, 38, 39, 40, 41, 42, 43, 44, 45, 46, 47, 48, 49, 50, 51, 52, 53, 54, 55, 56, 57, 58, 59, 60, 61, 62, 63, 64, 65, 66, 67, 68, 69, 70, 71, 72, 73, 74, 75, 76, 77, 78, 79, 80, 81] (by decide +kernel) (by decide +kernel)
set_option maxRecDepth 20000 in
theorem gX11_dayEnds_X11_endsDay : GoodIn wsX11_dayEnds (wsV RX11 392 RX11 yX11_endsDay wsX11_endsDay) := goodIn_app (goodIn_of _ (by decide +kernel)) ggX11_dayEnds_X11_endsDay
theorem dX11_dayEnds_0 : decode cX11_dayEnds 0 = .ok (.aload_n 0, 1) := by decide +kernel
theorem dX11_dayEnds_1 : decode cX11_dayEnds 1 = .ok (.getfield 35, 3) := by decide +kernel
theorem dX11_dayEnds_4 : decode cX11_dayEnds 4 = .ok (.bipush 6, 2) := by decide +kernel
theorem dX11_dayEnds_6 : decode cX11_dayEnds 6 = .ok (.iaload, 1) := by decide +kernel
theorem dX11_dayEnds_7 : decode cX11_dayEnds 7 = .ok (.sipush 9999, 3) := by decide +kernel
theorem dX11_dayEnds_10 : decode cX11_dayEnds 10 = .ok (.if_icmp .ne 5, 3) := by decide +kernel
theorem dX11_dayEnds_13 : decode cX11_dayEnds 13 = .ok (.iconst 0, 1) := by decide +kernel
theorem dX11_dayEnds_14 : decode cX11_dayEnds 14 = .ok (.ireturn, 1) := by decide +kernel
theorem dX11_dayEnds_15 : decode cX11_dayEnds 15 = .ok (.aload_n 0, 1) := by decide +kernel
theorem dX11_dayEnds_16 : decode cX11_dayEnds 16 = .ok (.invokevirtual 392, 3) := by decide +kernel
theorem dX11_dayEnds_19 : decode cX11_dayEnds 19 = .ok (.istore_n 1, 1) := by decide +kernel
theorem dX11_dayEnds_20 : decode cX11_dayEnds 20 = .ok (.aload_n 0, 1) := by decide +kernel
theorem dX11_dayEnds_21 : decode cX11_dayEnds 21 = .ok (.dup, 1) := by decide +kernel
theorem dX11_dayEnds_22 : decode cX11_dayEnds 22 = .ok (.getfield 479, 3) := by decide +kernel
theorem dX11_dayEnds_25 : decode cX11_dayEnds 25 = .ok (.iconst 1, 1) := by decide +kernel
theorem dX11_dayEnds_26 : decode cX11_dayEnds 26 = .ok (.iadd, 1) := by decide +kernel
theorem dX11_dayEnds_27 : decode cX11_dayEnds 27 = .ok (.putfield 479, 3) := by decide +kernel
theorem dX11_dayEnds_30 : decode cX11_dayEnds 30 = .ok (.aload_n 0, 1) := by decide +kernel
theorem dX11_dayEnds_31 : decode cX11_dayEnds 31 = .ok (.dup, 1) := by decide +kernel
theorem dX11_dayEnds_32 : decode cX11_dayEnds 32 = .ok (.getfield 482, 3) := by decide +kernel
theorem dX11_dayEnds_35 : decode cX11_dayEnds 35 = .ok (.iload_n 1, 1) := by decide +kernel
theorem dX11_dayEnds_36 : decode cX11_dayEnds 36 = .ok (.ifCond .le 7, 3) := by decide +kernel
theorem dX11_dayEnds_39 : decode cX11_dayEnds 39 = .ok (.iconst 1, 1) := by decide +kernel
theorem dX11_dayEnds_40 : decode cX11_dayEnds 40 = .ok (.goto 4, 3) := by decide +kernel
theorem dX11_dayEnds_43 : decode cX11_dayEnds 43 = .ok (.iconst 0, 1) := by decide +kernel
theorem dX11_dayEnds_44 : decode cX11_dayEnds 44 = .ok (.iadd, 1) := by decide +kernel
theorem dX11_dayEnds_45 : decode cX11_dayEnds 45 = .ok (.putfield 482, 3) := by decide +kernel
theorem dX11_dayEnds_48 : decode cX11_dayEnds 48 = .ok (.aload_n 0, 1) := by decide +kernel
theorem dX11_dayEnds_49 : decode cX11_dayEnds 49 = .ok (.dup, 1) := by decide +kernel
theorem dX11_dayEnds_50 : decode cX11_dayEnds 50 = .ok (.getfield 485, 3) := by decide +kernel
theorem dX11_dayEnds_53 : decode cX11_dayEnds 53 = .ok (.iload_n 1, 1) := by decide +kernel
theorem dX11_dayEnds_54 : decode cX11_dayEnds 54 = .ok (.ifCond .ne 7, 3) := by decide +kernel
theorem dX11_dayEnds_57 : decode cX11_dayEnds 57 = .ok (.iconst 1, 1) := by decide +kernel
theorem dX11_dayEnds_58 : decode cX11_dayEnds 58 = .ok (.goto 4, 3) := by decide +kernel
theorem dX11_dayEnds_61 : decode cX11_dayEnds 61 = .ok (.iconst 0, 1) := by decide +kernel
theorem dX11_dayEnds_62 : decode cX11_dayEnds 62 = .ok (.iadd, 1) := by decide +kernel
theorem dX11_dayEnds_63 : decode cX11_dayEnds 63 = .ok (.putfield 485, 3) := by decide +kernel
theorem dX11_dayEnds_66 : decode cX11_dayEnds 66 = .ok (.iconst 1, 1) := by decide +kernel
theorem dX11_dayEnds_67 : decode cX11_dayEnds 67 = .ok (.ireturn, 1) := by decide +kernel
set_option maxRecDepth 20000 in
theorem ggX11_does_X11_dayEnds : GoodIn wsX11_does wsX11_dayEnds := goodIn_r _ [6, 1, 7, 8, 9, 10, 11, 12, 5, 13, 14, 15, 16, 17, 18, 19, 20, 21, 22, 23, 24, 25, 26, 27, 28, 29, 30, 31, 32, 33, 34, 35, 36, 37, 38, 39, 91, 92, 93, 94, 95, 96, 97, 98, 99, 100, 101, 102, 103, 104, 105, 106, 107, 108, 109, 110, 111, 112, 113, 114, 115, 116, 117, 118, 119, 120, 121, 122, 123, 124, 125, 126, 127, 128, 129, 130, 131, 132, 133, 134, 135, 136] (by decide +kernel) (by decide +kernel)
set_option maxRecDepth 20000 in
theorem gX11_does_X11_dayEnds : GoodIn wsX11_does (wsV RX11 488 RX11 yX11_dayEnds wsX11_dayEnds) := goodIn_app (goodIn_of _ (by decide +kernel)) ggX11_does_X11_dayEnds
set_option maxRecDepth 20000 in
theorem ggX11_does_X11_strikesOne : GoodIn wsX11_does wsX11_strikesOne := goodIn_r _ [43, 1, 22, 23, 24, 5, 25, 26, 27, 28, 91, 92, 93, 94, 95, 96, 97, 98, 99, 100, 101, 102, 103, 104, 105, 106, 107, 108, 109, 110, 111, 112, 113, 114, 115, 116, 117, 118, 119, 120, 121, 122, 123, 124, 125, 126, 127, 128, 129, 130, 131, 132, 133, 134, 135, 136] (by decide +kernel) (by decide +kernel)
set_option maxRecDepth 20000 in
theorem gX11_does_X11_strikesOne : GoodIn wsX11_does (wsV RX11 395 RX11 yX11_strikesOne wsX11_strikesOne) := goodIn_app (goodIn_of _ (by decide +kernel)) ggX11_does_X11_strikesOne
set_option maxRecDepth 20000 in
theorem ggX11_does_X11_seatsOne : GoodIn wsX11_does wsX11_seatsOne := goodIn_r _ [47, 1, 22, 23, 24, 5, 25, 26, 27, 28, 91, 92, 93, 94, 95, 96, 97, 98, 99, 100, 101, 102, 103, 104, 105, 106, 107, 108, 109, 110, 111, 112, 113, 114, 115, 116, 117, 118, 119, 120, 121, 122, 123, 124, 125, 126, 127, 128, 129, 130, 131, 132, 133, 134, 135, 136] (by decide +kernel) (by decide +kernel)
set_option maxRecDepth 20000 in
theorem gX11_does_X11_seatsOne : GoodIn wsX11_does (wsV RX11 398 RX11 yX11_seatsOne wsX11_seatsOne) := goodIn_app (goodIn_of _ (by decide +kernel)) ggX11_does_X11_seatsOne
set_option maxRecDepth 20000 in
theorem ggX11_does_X11_bribesOne : GoodIn wsX11_does wsX11_bribesOne := goodIn_r _ [51, 1, 22, 23, 24, 5, 25, 26, 27, 28, 91, 92, 93, 94, 95, 96, 97, 98, 99, 100, 101, 102, 103, 104, 105, 106, 107, 108, 109, 110, 111, 112, 113, 114, 115, 116, 117, 118, 119, 120, 121, 122, 123, 124, 125, 126, 127, 128, 129, 130, 131, 132, 133, 134, 135, 136] (by decide +kernel) (by decide +kernel)
set_option maxRecDepth 20000 in
theorem gX11_does_X11_bribesOne : GoodIn wsX11_does (wsV RX11 401 RX11 yX11_bribesOne wsX11_bribesOne) := goodIn_app (goodIn_of _ (by decide +kernel)) ggX11_does_X11_bribesOne
set_option maxRecDepth 20000 in
theorem ggX11_does_X11_has : GoodIn wsX11_does wsX11_has := goodIn_r _ [28] (by decide +kernel) (by decide +kernel)
set_option maxRecDepth 20000 in
theorem gX11_does_X11_has : GoodIn wsX11_does (va_wsS RX11 110 yX11_has wsX11_has) := goodIn_app (goodIn_of _ (by decide +kernel)) ggX11_does_X11_has
set_option maxRecDepth 20000 in
theorem ggX11_does_X11_showsOne : GoodIn wsX11_does wsX11_showsOne := goodIn_r _ [55, 1, 56, 57, 58, 59, 60, 61, 62, 22, 23, 24, 5, 25, 26, 27, 28, 63, 64, 65, 66, 67, 68, 91, 92, 93, 94, 95, 96, 97, 98, 99, 100, 101, 102, 103, 104, 105, 106, 107, 108, 109, 110, 111, 112, 113, 114, 115, 116, 117, 118, 119, 120, 121, 122, 123, 124, 125, 126, 127, 128, 129, 130, 131, 132, 133, 134, 135, 136] (by decide +kernel) (by decide +kernel)
set_option maxRecDepth 20000 in
theorem gX11_does_X11_showsOne : GoodIn wsX11_does (wsV RX11 368 RX11 yX11_showsOne wsX11_showsOne) := goodIn_app (goodIn_of _ (by decide +kernel)) ggX11_does_X11_showsOne
set_option maxRecDepth 20000 in
theorem ggX11_does_X11_moods : GoodIn wsX11_does wsX11_moods := goodIn_r _ [72, 1, 22, 23, 24, 5, 25, 26, 27, 28, 73, 74, 75, 76, 77, 78, 63, 64, 65, 66, 67, 58, 68, 60, 61, 62, 91, 92, 93, 94, 95, 96, 97, 98, 99, 100, 101, 102, 103, 104, 105, 106, 107, 108, 109, 110, 111, 112, 113, 114, 115, 116, 117, 118, 119, 120, 121, 122, 123, 124, 125, 126, 127, 128, 129, 130, 131, 132, 133, 134, 135, 136] (by decide +kernel) (by decide +kernel)
set_option maxRecDepth 20000 in
theorem gX11_does_X11_moods : GoodIn wsX11_does (wsV RX11 491 RX11 yX11_moods wsX11_moods) := goodIn_app (goodIn_of _ (by decide +kernel)) ggX11_does_X11_moods
set_option maxRecDepth 20000 in
theorem ggX11_does_X11_talksFor : GoodIn wsX11_does wsX11_talksFor := goodIn_r _ [82, 83, 84, 85, 5, 86, 1, 22, 23, 24, 25, 26, 27, 28, 87, 88, 89, 90, 56, 57, 58, 59, 63, 64, 65, 66, 67, 68, 60, 61, 62, 18, 19, 20, 21, 91, 92, 93, 94, 95, 96, 97, 98, 99, 100, 101, 102, 103, 104, 105, 106, 107, 108, 109, 110, 111, 112, 113, 114, 115, 116, 117, 118, 119, 120, 121, 122, 123, 124, 125, 126, 127, 128, 129, 130, 131, 132, 133, 134, 135, 136] (by decide +kernel) (by decide +kernel)
set_option maxRecDepth 20000 in
theorem gX11_does_X11_talksFor : GoodIn wsX11_does (wsV RX11 386 RX11 yX11_talksFor wsX11_talksFor) := goodIn_app (goodIn_of _ (by decide +kernel)) ggX11_does_X11_talksFor
theorem dX11_does_0 : decode cX11_does 0 = .ok (.aload_n 0, 1) := by decide +kernel
theorem dX11_does_1 : decode cX11_does 1 = .ok (.getfield 35, 3) := by decide +kernel
theorem dX11_does_4 : decode cX11_does 4 = .ok (.iload_n 1, 1) := by decide +kernel
theorem dX11_does_5 : decode cX11_does 5 = .ok (.iaload, 1) := by decide +kernel
theorem dX11_does_6 : decode cX11_does 6 = .ok (.istore_n 2, 1) := by decide +kernel
theorem dX11_does_7 : decode cX11_does 7 = .ok (.aload_n 0, 1) := by decide +kernel
theorem dX11_does_8 : decode cX11_does 8 = .ok (.getfield 35, 3) := by decide +kernel
theorem dX11_does_11 : decode cX11_does 11 = .ok (.iload_n 1, 1) := by decide +kernel
theorem dX11_does_12 : decode cX11_does 12 = .ok (.iconst 1, 1) := by decide +kernel
theorem dX11_does_13 : decode cX11_does 13 = .ok (.iadd, 1) := by decide +kernel
theorem dX11_does_14 : decode cX11_does 14 = .ok (.iaload, 1) := by decide +kernel
theorem dX11_does_15 : decode cX11_does 15 = .ok (.istore_n 3, 1) := by decide +kernel
theorem dX11_does_16 : decode cX11_does 16 = .ok (.iload_n 2, 1) := by decide +kernel
theorem dX11_does_17 : decode cX11_does 17 = .ok (.iconst 2, 1) := by decide +kernel
theorem dX11_does_18 : decode cX11_does 18 = .ok (.if_icmp .ne 8, 3) := by decide +kernel
theorem dX11_does_21 : decode cX11_does 21 = .ok (.aload_n 0, 1) := by decide +kernel
theorem dX11_does_22 : decode cX11_does 22 = .ok (.invokevirtual 488, 3) := by decide +kernel
theorem dX11_does_25 : decode cX11_does 25 = .ok (.ireturn, 1) := by decide +kernel
theorem dX11_does_26 : decode cX11_does 26 = .ok (.iload_n 2, 1) := by decide +kernel
theorem dX11_does_27 : decode cX11_does 27 = .ok (.iconst 3, 1) := by decide +kernel
theorem dX11_does_28 : decode cX11_does 28 = .ok (.if_icmp .ne 9, 3) := by decide +kernel
theorem dX11_does_31 : decode cX11_does 31 = .ok (.aload_n 0, 1) := by decide +kernel
theorem dX11_does_32 : decode cX11_does 32 = .ok (.iload_n 3, 1) := by decide +kernel
theorem dX11_does_33 : decode cX11_does 33 = .ok (.invokevirtual 395, 3) := by decide +kernel
theorem dX11_does_36 : decode cX11_does 36 = .ok (.ireturn, 1) := by decide +kernel
theorem dX11_does_37 : decode cX11_does 37 = .ok (.iload_n 2, 1) := by decide +kernel
theorem dX11_does_38 : decode cX11_does 38 = .ok (.iconst 4, 1) := by decide +kernel
theorem dX11_does_39 : decode cX11_does 39 = .ok (.if_icmp .ne 9, 3) := by decide +kernel
theorem dX11_does_42 : decode cX11_does 42 = .ok (.aload_n 0, 1) := by decide +kernel
theorem dX11_does_43 : decode cX11_does 43 = .ok (.iload_n 3, 1) := by decide +kernel
theorem dX11_does_44 : decode cX11_does 44 = .ok (.invokevirtual 398, 3) := by decide +kernel
theorem dX11_does_47 : decode cX11_does 47 = .ok (.ireturn, 1) := by decide +kernel
theorem dX11_does_48 : decode cX11_does 48 = .ok (.iload_n 2, 1) := by decide +kernel
theorem dX11_does_49 : decode cX11_does 49 = .ok (.iconst 5, 1) := by decide +kernel
theorem dX11_does_50 : decode cX11_does 50 = .ok (.if_icmp .ne 25, 3) := by decide +kernel
theorem dX11_does_53 : decode cX11_does 53 = .ok (.aload_n 0, 1) := by decide +kernel
theorem dX11_does_54 : decode cX11_does 54 = .ok (.iload_n 3, 1) := by decide +kernel
theorem dX11_does_55 : decode cX11_does 55 = .ok (.aload_n 0, 1) := by decide +kernel
theorem dX11_does_56 : decode cX11_does 56 = .ok (.getfield 35, 3) := by decide +kernel
theorem dX11_does_59 : decode cX11_does 59 = .ok (.iload_n 1, 1) := by decide +kernel
theorem dX11_does_60 : decode cX11_does 60 = .ok (.iconst 2, 1) := by decide +kernel
theorem dX11_does_61 : decode cX11_does 61 = .ok (.iadd, 1) := by decide +kernel
theorem dX11_does_62 : decode cX11_does 62 = .ok (.iaload, 1) := by decide +kernel
theorem dX11_does_63 : decode cX11_does 63 = .ok (.invokevirtual 401, 3) := by decide +kernel
theorem dX11_does_66 : decode cX11_does 66 = .ok (.ifCond .ne 7, 3) := by decide +kernel
theorem dX11_does_69 : decode cX11_does 69 = .ok (.iconst 1, 1) := by decide +kernel
theorem dX11_does_70 : decode cX11_does 70 = .ok (.goto 4, 3) := by decide +kernel
theorem dX11_does_73 : decode cX11_does 73 = .ok (.iconst 0, 1) := by decide +kernel
theorem dX11_does_74 : decode cX11_does 74 = .ok (.ireturn, 1) := by decide +kernel
theorem dX11_does_75 : decode cX11_does 75 = .ok (.iload_n 2, 1) := by decide +kernel
theorem dX11_does_76 : decode cX11_does 76 = .ok (.ifCond .ne 27, 3) := by decide +kernel
theorem dX11_does_79 : decode cX11_does 79 = .ok (.aload_n 0, 1) := by decide +kernel
theorem dX11_does_80 : decode cX11_does 80 = .ok (.getfield 35, 3) := by decide +kernel
theorem dX11_does_83 : decode cX11_does 83 = .ok (.bipush 11, 2) := by decide +kernel
theorem dX11_does_85 : decode cX11_does 85 = .ok (.iaload, 1) := by decide +kernel
theorem dX11_does_86 : decode cX11_does 86 = .ok (.iload_n 3, 1) := by decide +kernel
theorem dX11_does_87 : decode cX11_does 87 = .ok (.invokestatic 110, 3) := by decide +kernel
theorem dX11_does_90 : decode cX11_does 90 = .ok (.ifCond .eq 5, 3) := by decide +kernel
theorem dX11_does_93 : decode cX11_does 93 = .ok (.iconst 0, 1) := by decide +kernel
theorem dX11_does_94 : decode cX11_does 94 = .ok (.ireturn, 1) := by decide +kernel
theorem dX11_does_95 : decode cX11_does 95 = .ok (.aload_n 0, 1) := by decide +kernel
theorem dX11_does_96 : decode cX11_does 96 = .ok (.iload_n 3, 1) := by decide +kernel
theorem dX11_does_97 : decode cX11_does 97 = .ok (.invokevirtual 368, 3) := by decide +kernel
theorem dX11_does_100 : decode cX11_does 100 = .ok (.pop, 1) := by decide +kernel
theorem dX11_does_101 : decode cX11_does 101 = .ok (.iconst 1, 1) := by decide +kernel
theorem dX11_does_102 : decode cX11_does 102 = .ok (.ireturn, 1) := by decide +kernel
theorem dX11_does_103 : decode cX11_does 103 = .ok (.iload_n 2, 1) := by decide +kernel
theorem dX11_does_104 : decode cX11_does 104 = .ok (.bipush 6, 2) := by decide +kernel
theorem dX11_does_106 : decode cX11_does 106 = .ok (.if_icmp .ne 9, 3) := by decide +kernel
theorem dX11_does_109 : decode cX11_does 109 = .ok (.aload_n 0, 1) := by decide +kernel
theorem dX11_does_110 : decode cX11_does 110 = .ok (.invokevirtual 491, 3) := by decide +kernel
theorem dX11_does_113 : decode cX11_does 113 = .ok (.iconst 1, 1) := by decide +kernel
theorem dX11_does_114 : decode cX11_does 114 = .ok (.ireturn, 1) := by decide +kernel
theorem dX11_does_115 : decode cX11_does 115 = .ok (.aload_n 0, 1) := by decide +kernel
theorem dX11_does_116 : decode cX11_does 116 = .ok (.getfield 35, 3) := by decide +kernel
theorem dX11_does_119 : decode cX11_does 119 = .ok (.bipush 7, 2) := by decide +kernel
theorem dX11_does_121 : decode cX11_does 121 = .ok (.iaload, 1) := by decide +kernel
theorem dX11_does_122 : decode cX11_does 122 = .ok (.iload_n 3, 1) := by decide +kernel
theorem dX11_does_123 : decode cX11_does 123 = .ok (.iadd, 1) := by decide +kernel
theorem dX11_does_124 : decode cX11_does 124 = .ok (.sipush 9999, 3) := by decide +kernel
theorem dX11_does_127 : decode cX11_does 127 = .ok (.if_icmp .le 5, 3) := by decide +kernel
theorem dX11_does_130 : decode cX11_does 130 = .ok (.iconst 0, 1) := by decide +kernel
theorem dX11_does_131 : decode cX11_does 131 = .ok (.ireturn, 1) := by decide +kernel
theorem dX11_does_132 : decode cX11_does 132 = .ok (.aload_n 0, 1) := by decide +kernel
theorem dX11_does_133 : decode cX11_does 133 = .ok (.iload_n 3, 1) := by decide +kernel
theorem dX11_does_134 : decode cX11_does 134 = .ok (.invokevirtual 386, 3) := by decide +kernel
theorem dX11_does_137 : decode cX11_does 137 = .ok (.iconst 1, 1) := by decide +kernel
theorem dX11_does_138 : decode cX11_does 138 = .ok (.ireturn, 1) := by decide +kernel
set_option maxRecDepth 20000 in
theorem ggX11_isSo_X11_votesFor : GoodIn wsX11_isSo wsX11_votesFor := goodIn_r _ [6, 1, 7, 8, 9, 5, 10, 11, 12, 13, 14, 15, 16, 17, 18, 19, 20, 21, 22, 23, 24, 25, 26, 27, 28, 29, 30, 31, 32, 33, 34, 35, 36, 37, 38, 39, 40, 41, 42, 43, 44, 45, 46, 47, 48, 49, 50, 51, 52, 53, 54, 55, 56, 57, 58, 59] (by decide +kernel) (by decide +kernel)
set_option maxRecDepth 20000 in
theorem gX11_isSo_X11_votesFor : GoodIn wsX11_isSo (wsV RX11 374 RX11 yX11_votesFor wsX11_votesFor) := goodIn_app (goodIn_of _ (by decide +kernel)) ggX11_isSo_X11_votesFor
theorem dX11_isSo_0 : decode cX11_isSo 0 = .ok (.aload_n 0, 1) := by decide +kernel
theorem dX11_isSo_1 : decode cX11_isSo 1 = .ok (.getfield 35, 3) := by decide +kernel
theorem dX11_isSo_4 : decode cX11_isSo 4 = .ok (.iload_n 1, 1) := by decide +kernel
theorem dX11_isSo_5 : decode cX11_isSo 5 = .ok (.bipush 6, 2) := by decide +kernel
theorem dX11_isSo_7 : decode cX11_isSo 7 = .ok (.iadd, 1) := by decide +kernel
theorem dX11_isSo_8 : decode cX11_isSo 8 = .ok (.iaload, 1) := by decide +kernel
theorem dX11_isSo_9 : decode cX11_isSo 9 = .ok (.istore_n 2, 1) := by decide +kernel
theorem dX11_isSo_10 : decode cX11_isSo 10 = .ok (.iload_n 2, 1) := by decide +kernel
theorem dX11_isSo_11 : decode cX11_isSo 11 = .ok (.iconst 1, 1) := by decide +kernel
theorem dX11_isSo_12 : decode cX11_isSo 12 = .ok (.if_icmp .ne 27, 3) := by decide +kernel
theorem dX11_isSo_15 : decode cX11_isSo 15 = .ok (.aload_n 0, 1) := by decide +kernel
theorem dX11_isSo_16 : decode cX11_isSo 16 = .ok (.getfield 35, 3) := by decide +kernel
theorem dX11_isSo_19 : decode cX11_isSo 19 = .ok (.bipush 8, 2) := by decide +kernel
theorem dX11_isSo_21 : decode cX11_isSo 21 = .ok (.iaload, 1) := by decide +kernel
theorem dX11_isSo_22 : decode cX11_isSo 22 = .ok (.aload_n 0, 1) := by decide +kernel
theorem dX11_isSo_23 : decode cX11_isSo 23 = .ok (.getfield 35, 3) := by decide +kernel
theorem dX11_isSo_26 : decode cX11_isSo 26 = .ok (.iload_n 1, 1) := by decide +kernel
theorem dX11_isSo_27 : decode cX11_isSo 27 = .ok (.iconst 1, 1) := by decide +kernel
theorem dX11_isSo_28 : decode cX11_isSo 28 = .ok (.iadd, 1) := by decide +kernel
theorem dX11_isSo_29 : decode cX11_isSo 29 = .ok (.iaload, 1) := by decide +kernel
theorem dX11_isSo_30 : decode cX11_isSo 30 = .ok (.if_icmp .ne 7, 3) := by decide +kernel
theorem dX11_isSo_33 : decode cX11_isSo 33 = .ok (.iconst 1, 1) := by decide +kernel
theorem dX11_isSo_34 : decode cX11_isSo 34 = .ok (.goto 4, 3) := by decide +kernel
theorem dX11_isSo_37 : decode cX11_isSo 37 = .ok (.iconst 0, 1) := by decide +kernel
theorem dX11_isSo_38 : decode cX11_isSo 38 = .ok (.ireturn, 1) := by decide +kernel
theorem dX11_isSo_39 : decode cX11_isSo 39 = .ok (.iload_n 2, 1) := by decide +kernel
theorem dX11_isSo_40 : decode cX11_isSo 40 = .ok (.ifCond .ne 11, 3) := by decide +kernel
theorem dX11_isSo_43 : decode cX11_isSo 43 = .ok (.aload_n 0, 1) := by decide +kernel
theorem dX11_isSo_44 : decode cX11_isSo 44 = .ok (.iconst 1, 1) := by decide +kernel
theorem dX11_isSo_45 : decode cX11_isSo 45 = .ok (.invokevirtual 374, 3) := by decide +kernel
theorem dX11_isSo_48 : decode cX11_isSo 48 = .ok (.goto 20, 3) := by decide +kernel
theorem dX11_isSo_51 : decode cX11_isSo 51 = .ok (.aload_n 0, 1) := by decide +kernel
theorem dX11_isSo_52 : decode cX11_isSo 52 = .ok (.getfield 35, 3) := by decide +kernel
theorem dX11_isSo_55 : decode cX11_isSo 55 = .ok (.sipush 194, 3) := by decide +kernel
theorem dX11_isSo_58 : decode cX11_isSo 58 = .ok (.aload_n 0, 1) := by decide +kernel
theorem dX11_isSo_59 : decode cX11_isSo 59 = .ok (.getfield 35, 3) := by decide +kernel
theorem dX11_isSo_62 : decode cX11_isSo 62 = .ok (.iload_n 1, 1) := by decide +kernel
theorem dX11_isSo_63 : decode cX11_isSo 63 = .ok (.iconst 1, 1) := by decide +kernel
theorem dX11_isSo_64 : decode cX11_isSo 64 = .ok (.iadd, 1) := by decide +kernel
theorem dX11_isSo_65 : decode cX11_isSo 65 = .ok (.iaload, 1) := by decide +kernel
theorem dX11_isSo_66 : decode cX11_isSo 66 = .ok (.iadd, 1) := by decide +kernel
theorem dX11_isSo_67 : decode cX11_isSo 67 = .ok (.iaload, 1) := by decide +kernel
theorem dX11_isSo_68 : decode cX11_isSo 68 = .ok (.istore_n 3, 1) := by decide +kernel
theorem dX11_isSo_69 : decode cX11_isSo 69 = .ok (.aload_n 0, 1) := by decide +kernel
theorem dX11_isSo_70 : decode cX11_isSo 70 = .ok (.getfield 35, 3) := by decide +kernel
theorem dX11_isSo_73 : decode cX11_isSo 73 = .ok (.iload_n 1, 1) := by decide +kernel
theorem dX11_isSo_74 : decode cX11_isSo 74 = .ok (.bipush 7, 2) := by decide +kernel
theorem dX11_isSo_76 : decode cX11_isSo 76 = .ok (.iadd, 1) := by decide +kernel
theorem dX11_isSo_77 : decode cX11_isSo 77 = .ok (.iaload, 1) := by decide +kernel
theorem dX11_isSo_78 : decode cX11_isSo 78 = .ok (.bipush 60, 2) := by decide +kernel
theorem dX11_isSo_80 : decode cX11_isSo 80 = .ok (.if_icmp .ne 23, 3) := by decide +kernel
theorem dX11_isSo_83 : decode cX11_isSo 83 = .ok (.iload_n 3, 1) := by decide +kernel
theorem dX11_isSo_84 : decode cX11_isSo 84 = .ok (.aload_n 0, 1) := by decide +kernel
theorem dX11_isSo_85 : decode cX11_isSo 85 = .ok (.getfield 35, 3) := by decide +kernel
theorem dX11_isSo_88 : decode cX11_isSo 88 = .ok (.iload_n 1, 1) := by decide +kernel
theorem dX11_isSo_89 : decode cX11_isSo 89 = .ok (.iconst 2, 1) := by decide +kernel
theorem dX11_isSo_90 : decode cX11_isSo 90 = .ok (.iadd, 1) := by decide +kernel
theorem dX11_isSo_91 : decode cX11_isSo 91 = .ok (.iaload, 1) := by decide +kernel
theorem dX11_isSo_92 : decode cX11_isSo 92 = .ok (.if_icmp .ge 7, 3) := by decide +kernel
theorem dX11_isSo_95 : decode cX11_isSo 95 = .ok (.iconst 1, 1) := by decide +kernel
theorem dX11_isSo_96 : decode cX11_isSo 96 = .ok (.goto 58, 3) := by decide +kernel
theorem dX11_isSo_99 : decode cX11_isSo 99 = .ok (.iconst 0, 1) := by decide +kernel
theorem dX11_isSo_100 : decode cX11_isSo 100 = .ok (.goto 54, 3) := by decide +kernel
theorem dX11_isSo_103 : decode cX11_isSo 103 = .ok (.aload_n 0, 1) := by decide +kernel
theorem dX11_isSo_104 : decode cX11_isSo 104 = .ok (.getfield 35, 3) := by decide +kernel
theorem dX11_isSo_107 : decode cX11_isSo 107 = .ok (.iload_n 1, 1) := by decide +kernel
theorem dX11_isSo_108 : decode cX11_isSo 108 = .ok (.bipush 7, 2) := by decide +kernel
theorem dX11_isSo_110 : decode cX11_isSo 110 = .ok (.iadd, 1) := by decide +kernel
theorem dX11_isSo_111 : decode cX11_isSo 111 = .ok (.iaload, 1) := by decide +kernel
theorem dX11_isSo_112 : decode cX11_isSo 112 = .ok (.bipush 62, 2) := by decide +kernel
theorem dX11_isSo_114 : decode cX11_isSo 114 = .ok (.if_icmp .ne 23, 3) := by decide +kernel
theorem dX11_isSo_117 : decode cX11_isSo 117 = .ok (.iload_n 3, 1) := by decide +kernel
theorem dX11_isSo_118 : decode cX11_isSo 118 = .ok (.aload_n 0, 1) := by decide +kernel
theorem dX11_isSo_119 : decode cX11_isSo 119 = .ok (.getfield 35, 3) := by decide +kernel
theorem dX11_isSo_122 : decode cX11_isSo 122 = .ok (.iload_n 1, 1) := by decide +kernel
theorem dX11_isSo_123 : decode cX11_isSo 123 = .ok (.iconst 2, 1) := by decide +kernel
theorem dX11_isSo_124 : decode cX11_isSo 124 = .ok (.iadd, 1) := by decide +kernel
theorem dX11_isSo_125 : decode cX11_isSo 125 = .ok (.iaload, 1) := by decide +kernel
theorem dX11_isSo_126 : decode cX11_isSo 126 = .ok (.if_icmp .le 7, 3) := by decide +kernel
theorem dX11_isSo_129 : decode cX11_isSo 129 = .ok (.iconst 1, 1) := by decide +kernel
theorem dX11_isSo_130 : decode cX11_isSo 130 = .ok (.goto 24, 3) := by decide +kernel
theorem dX11_isSo_133 : decode cX11_isSo 133 = .ok (.iconst 0, 1) := by decide +kernel
theorem dX11_isSo_134 : decode cX11_isSo 134 = .ok (.goto 20, 3) := by decide +kernel
theorem dX11_isSo_137 : decode cX11_isSo 137 = .ok (.iload_n 3, 1) := by decide +kernel
theorem dX11_isSo_138 : decode cX11_isSo 138 = .ok (.aload_n 0, 1) := by decide +kernel
theorem dX11_isSo_139 : decode cX11_isSo 139 = .ok (.getfield 35, 3) := by decide +kernel
theorem dX11_isSo_142 : decode cX11_isSo 142 = .ok (.iload_n 1, 1) := by decide +kernel
theorem dX11_isSo_143 : decode cX11_isSo 143 = .ok (.iconst 2, 1) := by decide +kernel
theorem dX11_isSo_144 : decode cX11_isSo 144 = .ok (.iadd, 1) := by decide +kernel
theorem dX11_isSo_145 : decode cX11_isSo 145 = .ok (.iaload, 1) := by decide +kernel
theorem dX11_isSo_146 : decode cX11_isSo 146 = .ok (.if_icmp .ne 7, 3) := by decide +kernel
theorem dX11_isSo_149 : decode cX11_isSo 149 = .ok (.iconst 1, 1) := by decide +kernel
theorem dX11_isSo_150 : decode cX11_isSo 150 = .ok (.goto 4, 3) := by decide +kernel
theorem dX11_isSo_153 : decode cX11_isSo 153 = .ok (.iconst 0, 1) := by decide +kernel
theorem dX11_isSo_154 : decode cX11_isSo 154 = .ok (.ireturn, 1) := by decide +kernel
set_option maxRecDepth 20000 in
theorem ggX11_doOne_X11_does : GoodIn wsX11_doOne wsX11_does := goodIn_r _ [10, 4, 11, 12, 13, 9, 14, 15, 16, 17, 18, 19, 20, 21, 22, 23, 24, 25, 26, 27, 28, 29, 30, 31, 32, 33, 34, 35, 36, 37, 38, 39, 40, 41, 42, 43, 44, 45, 46, 47, 48, 49, 50, 51, 52, 53, 54, 55, 56, 57, 58, 59, 60, 61, 62, 63, 64, 65, 66, 67, 68, 69, 70, 71, 72, 73, 74, 75, 76, 77, 78, 79, 80, 81, 82, 83, 84, 85, 86, 87, 88, 89, 90, 91, 92, 93, 94, 95, 96, 97, 98, 110, 111, 112, 113, 114, 115, 116, 117, 118, 119, 120, 121, 122, 123, 124, 125, 126, 127, 128, 129, 130, 131, 132, 133, 134, 135, 136, 137, 138, 139, 140, 141, 142, 143, 144, 145, 146, 147, 148, 149, 150, 151, 152, 153, 154, 155] (by decide +kernel) (by decide +kernel)
set_option maxRecDepth 20000 in
theorem gX11_doOne_X11_does : GoodIn wsX11_doOne (wsV RX11 506 RX11 yX11_does wsX11_does) := goodIn_app (goodIn_of _ (by decide +kernel)) ggX11_doOne_X11_does
set_option maxRecDepth 20000 in
theorem ggX11_doOne_X11_isSo : GoodIn wsX11_doOne wsX11_isSo := goodIn_r _ [102, 4, 26, 27, 28, 9, 29, 30, 31, 32, 33, 34, 35, 36, 110, 111, 112, 113, 114, 115, 116, 117, 118, 119, 120, 121, 122, 123, 124, 125, 126, 127, 128, 129, 130, 131, 132, 133, 134, 135, 136, 137, 138, 139, 140, 141, 142, 143, 144, 145, 146, 147, 148, 149, 150, 151, 152, 153, 154, 155] (by decide +kernel) (by decide +kernel)
set_option maxRecDepth 20000 in
theorem gX11_doOne_X11_isSo : GoodIn wsX11_doOne (wsV RX11 509 RX11 yX11_isSo wsX11_isSo) := goodIn_app (goodIn_of _ (by decide +kernel)) ggX11_doOne_X11_isSo
set_option maxRecDepth 20000 in
theorem ggX11_doOne_X11_doAll : GoodIn wsX11_doOne wsX11_doAll := goodIn_r _ [106, 2, 4, 107, 108, 109, 9, 0, 1, 3, 5, 6, 7, 8, 10, 11, 12, 13, 14, 15, 16, 17, 18, 19, 20, 21, 22, 23, 24, 25, 26, 27, 28, 29, 30, 31, 32, 33, 34, 35, 36, 37, 38, 39, 40, 41, 42, 43, 44, 45, 46, 47, 48, 49, 50, 51, 52, 53, 54, 55, 56, 57, 58, 59, 60, 61, 62, 63, 64, 65, 66, 67, 68, 69, 70, 71, 72, 73, 74, 75, 76, 77, 78, 79, 80, 81, 82, 83, 84, 85, 86, 87, 88, 89, 90, 91, 92, 93, 94, 95, 96, 97, 98, 99, 100, 101, 102, 103, 104, 105, 110, 111, 112, 113, 114, 115, 116, 117, 118, 119, 120, 121, 122, 123, 124, 125, 126, 127, 128, 129, 130, 131, 132, 133, 134, 135, 136, 137, 138, 139, 140, 141, 142, 143, 144, 145, 146, 147, 148, 149, 150, 151, 152, 153, 154, 155] (by decide +kernel) (by decide +kernel)
set_option maxRecDepth 20000 in
theorem gX11_doOne_X11_doAll : GoodIn wsX11_doOne (wsV RX11 512 RX11 yX11_doAll wsX11_doAll) := goodIn_app (goodIn_of _ (by decide +kernel)) ggX11_doOne_X11_doAll
theorem dX11_doOne_0 : decode cX11_doOne 0 = .ok (.aload_n 0, 1) := by decide +kernel
theorem dX11_doOne_1 : decode cX11_doOne 1 = .ok (.getfield 494, 3) := by decide +kernel
theorem dX11_doOne_4 : decode cX11_doOne 4 = .ok (.sipush 300, 3) := by decide +kernel
theorem dX11_doOne_7 : decode cX11_doOne 7 = .ok (.if_icmp .ne 14, 3) := by decide +kernel
theorem dX11_doOne_10 : decode cX11_doOne 10 = .ok (.aload_n 0, 1) := by decide +kernel
theorem dX11_doOne_11 : decode cX11_doOne 11 = .ok (.iconst 1, 1) := by decide +kernel
theorem dX11_doOne_12 : decode cX11_doOne 12 = .ok (.putfield 497, 3) := by decide +kernel
theorem dX11_doOne_15 : decode cX11_doOne 15 = .ok (.aload_n 0, 1) := by decide +kernel
theorem dX11_doOne_16 : decode cX11_doOne 16 = .ok (.iconst 1, 1) := by decide +kernel
theorem dX11_doOne_17 : decode cX11_doOne 17 = .ok (.putfield 500, 3) := by decide +kernel
theorem dX11_doOne_20 : decode cX11_doOne 20 = .ok (.return_, 1) := by decide +kernel
theorem dX11_doOne_21 : decode cX11_doOne 21 = .ok (.aload_n 0, 1) := by decide +kernel
theorem dX11_doOne_22 : decode cX11_doOne 22 = .ok (.dup, 1) := by decide +kernel
theorem dX11_doOne_23 : decode cX11_doOne 23 = .ok (.getfield 494, 3) := by decide +kernel
theorem dX11_doOne_26 : decode cX11_doOne 26 = .ok (.iconst 1, 1) := by decide +kernel
theorem dX11_doOne_27 : decode cX11_doOne 27 = .ok (.iadd, 1) := by decide +kernel
theorem dX11_doOne_28 : decode cX11_doOne 28 = .ok (.putfield 494, 3) := by decide +kernel
theorem dX11_doOne_31 : decode cX11_doOne 31 = .ok (.sipush 200, 3) := by decide +kernel
theorem dX11_doOne_34 : decode cX11_doOne 34 = .ok (.bipush 9, 2) := by decide +kernel
theorem dX11_doOne_36 : decode cX11_doOne 36 = .ok (.iload_n 1, 1) := by decide +kernel
theorem dX11_doOne_37 : decode cX11_doOne 37 = .ok (.imul, 1) := by decide +kernel
theorem dX11_doOne_38 : decode cX11_doOne 38 = .ok (.iadd, 1) := by decide +kernel
theorem dX11_doOne_39 : decode cX11_doOne 39 = .ok (.istore_n 2, 1) := by decide +kernel
theorem dX11_doOne_40 : decode cX11_doOne 40 = .ok (.aload_n 0, 1) := by decide +kernel
theorem dX11_doOne_41 : decode cX11_doOne 41 = .ok (.getfield 35, 3) := by decide +kernel
theorem dX11_doOne_44 : decode cX11_doOne 44 = .ok (.iload_n 2, 1) := by decide +kernel
theorem dX11_doOne_45 : decode cX11_doOne 45 = .ok (.iaload, 1) := by decide +kernel
theorem dX11_doOne_46 : decode cX11_doOne 46 = .ok (.istore_n 3, 1) := by decide +kernel
theorem dX11_doOne_47 : decode cX11_doOne 47 = .ok (.iload_n 3, 1) := by decide +kernel
theorem dX11_doOne_48 : decode cX11_doOne 48 = .ok (.bipush 7, 2) := by decide +kernel
theorem dX11_doOne_50 : decode cX11_doOne 50 = .ok (.if_icmp .ge 28, 3) := by decide +kernel
theorem dX11_doOne_53 : decode cX11_doOne 53 = .ok (.aload_n 0, 1) := by decide +kernel
theorem dX11_doOne_54 : decode cX11_doOne 54 = .ok (.dup, 1) := by decide +kernel
theorem dX11_doOne_55 : decode cX11_doOne 55 = .ok (.getfield 503, 3) := by decide +kernel
theorem dX11_doOne_58 : decode cX11_doOne 58 = .ok (.aload_n 0, 1) := by decide +kernel
theorem dX11_doOne_59 : decode cX11_doOne 59 = .ok (.iload_n 2, 1) := by decide +kernel
theorem dX11_doOne_60 : decode cX11_doOne 60 = .ok (.invokevirtual 506, 3) := by decide +kernel
theorem dX11_doOne_63 : decode cX11_doOne 63 = .ok (.ifCond .eq 7, 3) := by decide +kernel
theorem dX11_doOne_66 : decode cX11_doOne 66 = .ok (.iconst 0, 1) := by decide +kernel
theorem dX11_doOne_67 : decode cX11_doOne 67 = .ok (.goto 4, 3) := by decide +kernel
theorem dX11_doOne_70 : decode cX11_doOne 70 = .ok (.iconst 1, 1) := by decide +kernel
theorem dX11_doOne_71 : decode cX11_doOne 71 = .ok (.iadd, 1) := by decide +kernel
theorem dX11_doOne_72 : decode cX11_doOne 72 = .ok (.putfield 503, 3) := by decide +kernel
theorem dX11_doOne_75 : decode cX11_doOne 75 = .ok (.goto 101, 3) := by decide +kernel
theorem dX11_doOne_78 : decode cX11_doOne 78 = .ok (.iload_n 3, 1) := by decide +kernel
theorem dX11_doOne_79 : decode cX11_doOne 79 = .ok (.bipush 7, 2) := by decide +kernel
theorem dX11_doOne_81 : decode cX11_doOne 81 = .ok (.if_icmp .ne 30, 3) := by decide +kernel
theorem dX11_doOne_84 : decode cX11_doOne 84 = .ok (.aload_n 0, 1) := by decide +kernel
theorem dX11_doOne_85 : decode cX11_doOne 85 = .ok (.iload_n 2, 1) := by decide +kernel
theorem dX11_doOne_86 : decode cX11_doOne 86 = .ok (.invokevirtual 509, 3) := by decide +kernel
theorem dX11_doOne_89 : decode cX11_doOne 89 = .ok (.ifCond .eq 22, 3) := by decide +kernel
theorem dX11_doOne_92 : decode cX11_doOne 92 = .ok (.aload_n 0, 1) := by decide +kernel
theorem dX11_doOne_93 : decode cX11_doOne 93 = .ok (.iload_n 1, 1) := by decide +kernel
theorem dX11_doOne_94 : decode cX11_doOne 94 = .ok (.iconst 1, 1) := by decide +kernel
theorem dX11_doOne_95 : decode cX11_doOne 95 = .ok (.iadd, 1) := by decide +kernel
theorem dX11_doOne_96 : decode cX11_doOne 96 = .ok (.aload_n 0, 1) := by decide +kernel
theorem dX11_doOne_97 : decode cX11_doOne 97 = .ok (.getfield 35, 3) := by decide +kernel
theorem dX11_doOne_100 : decode cX11_doOne 100 = .ok (.iload_n 2, 1) := by decide +kernel
theorem dX11_doOne_101 : decode cX11_doOne 101 = .ok (.bipush 8, 2) := by decide +kernel
theorem dX11_doOne_103 : decode cX11_doOne 103 = .ok (.iadd, 1) := by decide +kernel
theorem dX11_doOne_104 : decode cX11_doOne 104 = .ok (.iaload, 1) := by decide +kernel
theorem dX11_doOne_105 : decode cX11_doOne 105 = .ok (.invokevirtual 512, 3) := by decide +kernel
theorem dX11_doOne_108 : decode cX11_doOne 108 = .ok (.goto 68, 3) := by decide +kernel
theorem dX11_doOne_111 : decode cX11_doOne 111 = .ok (.iload_n 3, 1) := by decide +kernel
theorem dX11_doOne_112 : decode cX11_doOne 112 = .ok (.bipush 8, 2) := by decide +kernel
theorem dX11_doOne_114 : decode cX11_doOne 114 = .ok (.if_icmp .ne 51, 3) := by decide +kernel
theorem dX11_doOne_117 : decode cX11_doOne 117 = .ok (.iconst 0, 1) := by decide +kernel
theorem dX11_doOne_118 : decode cX11_doOne 118 = .ok (.istore 4, 2) := by decide +kernel
theorem dX11_doOne_120 : decode cX11_doOne 120 = .ok (.iload 4, 2) := by decide +kernel
theorem dX11_doOne_122 : decode cX11_doOne 122 = .ok (.aload_n 0, 1) := by decide +kernel
theorem dX11_doOne_123 : decode cX11_doOne 123 = .ok (.getfield 35, 3) := by decide +kernel
theorem dX11_doOne_126 : decode cX11_doOne 126 = .ok (.iload_n 2, 1) := by decide +kernel
theorem dX11_doOne_127 : decode cX11_doOne 127 = .ok (.iconst 1, 1) := by decide +kernel
theorem dX11_doOne_128 : decode cX11_doOne 128 = .ok (.iadd, 1) := by decide +kernel
theorem dX11_doOne_129 : decode cX11_doOne 129 = .ok (.iaload, 1) := by decide +kernel
theorem dX11_doOne_130 : decode cX11_doOne 130 = .ok (.if_icmp .ge 32, 3) := by decide +kernel
theorem dX11_doOne_133 : decode cX11_doOne 133 = .ok (.aload_n 0, 1) := by decide +kernel
theorem dX11_doOne_134 : decode cX11_doOne 134 = .ok (.getfield 497, 3) := by decide +kernel
theorem dX11_doOne_137 : decode cX11_doOne 137 = .ok (.ifCond .ne 25, 3) := by decide +kernel
theorem dX11_doOne_140 : decode cX11_doOne 140 = .ok (.aload_n 0, 1) := by decide +kernel
theorem dX11_doOne_141 : decode cX11_doOne 141 = .ok (.iload_n 1, 1) := by decide +kernel
theorem dX11_doOne_142 : decode cX11_doOne 142 = .ok (.iconst 1, 1) := by decide +kernel
theorem dX11_doOne_143 : decode cX11_doOne 143 = .ok (.iadd, 1) := by decide +kernel
theorem dX11_doOne_144 : decode cX11_doOne 144 = .ok (.aload_n 0, 1) := by decide +kernel
theorem dX11_doOne_145 : decode cX11_doOne 145 = .ok (.getfield 35, 3) := by decide +kernel
theorem dX11_doOne_148 : decode cX11_doOne 148 = .ok (.iload_n 2, 1) := by decide +kernel
theorem dX11_doOne_149 : decode cX11_doOne 149 = .ok (.bipush 8, 2) := by decide +kernel
theorem dX11_doOne_151 : decode cX11_doOne 151 = .ok (.iadd, 1) := by decide +kernel
theorem dX11_doOne_152 : decode cX11_doOne 152 = .ok (.iaload, 1) := by decide +kernel
theorem dX11_doOne_153 : decode cX11_doOne 153 = .ok (.invokevirtual 512, 3) := by decide +kernel
theorem dX11_doOne_156 : decode cX11_doOne 156 = .ok (.iinc 4 1, 3) := by decide +kernel
theorem dX11_doOne_159 : decode cX11_doOne 159 = .ok (.goto (-39), 3) := by decide +kernel
theorem dX11_doOne_162 : decode cX11_doOne 162 = .ok (.goto 14, 3) := by decide +kernel
theorem dX11_doOne_165 : decode cX11_doOne 165 = .ok (.iload_n 3, 1) := by decide +kernel
theorem dX11_doOne_166 : decode cX11_doOne 166 = .ok (.bipush 8, 2) := by decide +kernel
theorem dX11_doOne_168 : decode cX11_doOne 168 = .ok (.if_icmp .le 8, 3) := by decide +kernel
theorem dX11_doOne_171 : decode cX11_doOne 171 = .ok (.aload_n 0, 1) := by decide +kernel
theorem dX11_doOne_172 : decode cX11_doOne 172 = .ok (.iconst 1, 1) := by decide +kernel
theorem dX11_doOne_173 : decode cX11_doOne 173 = .ok (.putfield 497, 3) := by decide +kernel
theorem dX11_doOne_176 : decode cX11_doOne 176 = .ok (.return_, 1) := by decide +kernel
set_option maxRecDepth 20000 in
theorem ggX11_doAll_X11_doOne : GoodIn wsX11_doAll wsX11_doOne := goodIn_r _ [7, 8, 1, 9, 2, 10, 11, 12, 13, 6, 14, 15, 16, 17, 18, 19, 20, 21, 22, 23, 24, 25, 26, 27, 28, 29, 30, 31, 32, 33, 34, 35, 36, 37, 38, 39, 40, 41, 42, 43, 44, 45, 46, 47, 48, 49, 50, 51, 52, 53, 54, 55, 56, 57, 58, 59, 60, 61, 62, 63, 64, 65, 66, 67, 68, 69, 70, 71, 72, 73, 74, 75, 76, 77, 78, 79, 80, 81, 82, 83, 84, 85, 86, 87, 88, 89, 90, 91, 92, 93, 94, 95, 96, 97, 98, 99, 100, 101, 102, 103, 104, 105, 106, 107, 108, 109, 0, 3, 4, 5, 110, 111, 112, 113, 114, 115, 116, 117, 118, 119, 120, 121, 122, 123, 124, 125, 126, 127, 128, 129, 130, 131, 132, 133, 134, 135, 136, 137, 138, 139, 140, 141, 142, 143, 144, 145, 146, 147, 148, 149, 150, 151, 152, 153, 154, 155] (by decide +kernel) (by decide +kernel)
set_option maxRecDepth 20000 in
theorem gX11_doAll_X11_doOne : GoodIn wsX11_doAll (wsV RX11 515 RX11 yX11_doOne wsX11_doOne) := goodIn_app (goodIn_of _ (by decide +kernel)) ggX11_doAll_X11_doOne
theorem dX11_doAll_0 : decode cX11_doAll 0 = .ok (.iload_n 1, 1) := by decide +kernel
theorem dX11_doAll_1 : decode cX11_doAll 1 = .ok (.istore_n 3, 1) := by decide +kernel
theorem dX11_doAll_2 : decode cX11_doAll 2 = .ok (.iload_n 3, 1) := by decide +kernel
theorem dX11_doAll_3 : decode cX11_doAll 3 = .ok (.iload_n 2, 1) := by decide +kernel
theorem dX11_doAll_4 : decode cX11_doAll 4 = .ok (.if_icmp .ge 35, 3) := by decide +kernel
theorem dX11_doAll_7 : decode cX11_doAll 7 = .ok (.aload_n 0, 1) := by decide +kernel
theorem dX11_doAll_8 : decode cX11_doAll 8 = .ok (.getfield 497, 3) := by decide +kernel
theorem dX11_doAll_11 : decode cX11_doAll 11 = .ok (.ifCond .ne 28, 3) := by decide +kernel
theorem dX11_doAll_14 : decode cX11_doAll 14 = .ok (.aload_n 0, 1) := by decide +kernel
theorem dX11_doAll_15 : decode cX11_doAll 15 = .ok (.iload_n 3, 1) := by decide +kernel
theorem dX11_doAll_16 : decode cX11_doAll 16 = .ok (.invokevirtual 515, 3) := by decide +kernel
theorem dX11_doAll_19 : decode cX11_doAll 19 = .ok (.aload_n 0, 1) := by decide +kernel
theorem dX11_doAll_20 : decode cX11_doAll 20 = .ok (.getfield 35, 3) := by decide +kernel
theorem dX11_doAll_23 : decode cX11_doAll 23 = .ok (.sipush 200, 3) := by decide +kernel
theorem dX11_doAll_26 : decode cX11_doAll 26 = .ok (.bipush 9, 2) := by decide +kernel
theorem dX11_doAll_28 : decode cX11_doAll 28 = .ok (.iload_n 3, 1) := by decide +kernel
theorem dX11_doAll_29 : decode cX11_doAll 29 = .ok (.imul, 1) := by decide +kernel
theorem dX11_doAll_30 : decode cX11_doAll 30 = .ok (.iadd, 1) := by decide +kernel
theorem dX11_doAll_31 : decode cX11_doAll 31 = .ok (.bipush 8, 2) := by decide +kernel
theorem dX11_doAll_33 : decode cX11_doAll 33 = .ok (.iadd, 1) := by decide +kernel
theorem dX11_doAll_34 : decode cX11_doAll 34 = .ok (.iaload, 1) := by decide +kernel
theorem dX11_doAll_35 : decode cX11_doAll 35 = .ok (.istore_n 3, 1) := by decide +kernel
theorem dX11_doAll_36 : decode cX11_doAll 36 = .ok (.goto (-34), 3) := by decide +kernel
theorem dX11_doAll_39 : decode cX11_doAll 39 = .ok (.return_, 1) := by decide +kernel
set_option maxRecDepth 20000 in
theorem ggX11_runs_X11_doAll : GoodIn wsX11_runs wsX11_doAll := goodIn_r _ [14, 8, 9, 15, 16, 17, 13, 18, 2, 7, 3, 19, 20, 21, 22, 23, 24, 25, 26, 4, 5, 6, 27, 28, 29, 30, 31, 32, 33, 34, 35, 36, 37, 38, 39, 40, 41, 42, 43, 44, 45, 46, 47, 48, 49, 50, 51, 52, 53, 54, 55, 56, 57, 58, 59, 60, 61, 62, 63, 64, 65, 66, 67, 68, 69, 70, 71, 72, 73, 74, 75, 76, 77, 78, 79, 80, 81, 82, 83, 84, 85, 86, 87, 88, 89, 90, 91, 92, 93, 1, 94, 95, 96, 97, 98, 99, 100, 101, 102, 103, 104, 105, 106, 107, 108, 109, 110, 10, 11, 12, 111, 112, 113, 114, 115, 116, 117, 118, 119, 120, 121, 122, 123, 124, 125, 126, 127, 128, 129, 130, 131, 132, 133, 134, 135, 136, 137, 138, 139, 140, 141, 142, 143, 144, 145, 146, 147, 148, 149, 150, 151, 152, 153, 154, 155, 156] (by decide +kernel) (by decide +kernel)
set_option maxRecDepth 20000 in
theorem gX11_runs_X11_doAll : GoodIn wsX11_runs (wsV RX11 512 RX11 yX11_doAll wsX11_doAll) := goodIn_app (goodIn_of _ (by decide +kernel)) ggX11_runs_X11_doAll
theorem dX11_runs_0 : decode cX11_runs 0 = .ok (.aload_n 0, 1) := by decide +kernel
theorem dX11_runs_1 : decode cX11_runs 1 = .ok (.iload_n 1, 1) := by decide +kernel
theorem dX11_runs_2 : decode cX11_runs 2 = .ok (.putfield 472, 3) := by decide +kernel
theorem dX11_runs_5 : decode cX11_runs 5 = .ok (.aload_n 0, 1) := by decide +kernel
theorem dX11_runs_6 : decode cX11_runs 6 = .ok (.iconst 0, 1) := by decide +kernel
theorem dX11_runs_7 : decode cX11_runs 7 = .ok (.putfield 494, 3) := by decide +kernel
theorem dX11_runs_10 : decode cX11_runs 10 = .ok (.aload_n 0, 1) := by decide +kernel
theorem dX11_runs_11 : decode cX11_runs 11 = .ok (.iconst 0, 1) := by decide +kernel
theorem dX11_runs_12 : decode cX11_runs 12 = .ok (.putfield 503, 3) := by decide +kernel
theorem dX11_runs_15 : decode cX11_runs 15 = .ok (.aload_n 0, 1) := by decide +kernel
theorem dX11_runs_16 : decode cX11_runs 16 = .ok (.iconst 0, 1) := by decide +kernel
theorem dX11_runs_17 : decode cX11_runs 17 = .ok (.putfield 479, 3) := by decide +kernel
theorem dX11_runs_20 : decode cX11_runs 20 = .ok (.aload_n 0, 1) := by decide +kernel
theorem dX11_runs_21 : decode cX11_runs 21 = .ok (.iconst 0, 1) := by decide +kernel
theorem dX11_runs_22 : decode cX11_runs 22 = .ok (.putfield 482, 3) := by decide +kernel
theorem dX11_runs_25 : decode cX11_runs 25 = .ok (.aload_n 0, 1) := by decide +kernel
theorem dX11_runs_26 : decode cX11_runs 26 = .ok (.iconst 0, 1) := by decide +kernel
theorem dX11_runs_27 : decode cX11_runs 27 = .ok (.putfield 485, 3) := by decide +kernel
theorem dX11_runs_30 : decode cX11_runs 30 = .ok (.aload_n 0, 1) := by decide +kernel
theorem dX11_runs_31 : decode cX11_runs 31 = .ok (.iconst 0, 1) := by decide +kernel
theorem dX11_runs_32 : decode cX11_runs 32 = .ok (.putfield 500, 3) := by decide +kernel
theorem dX11_runs_35 : decode cX11_runs 35 = .ok (.aload_n 0, 1) := by decide +kernel
theorem dX11_runs_36 : decode cX11_runs 36 = .ok (.iconst 0, 1) := by decide +kernel
theorem dX11_runs_37 : decode cX11_runs 37 = .ok (.putfield 497, 3) := by decide +kernel
theorem dX11_runs_40 : decode cX11_runs 40 = .ok (.aload_n 0, 1) := by decide +kernel
theorem dX11_runs_41 : decode cX11_runs 41 = .ok (.iconst 0, 1) := by decide +kernel
theorem dX11_runs_42 : decode cX11_runs 42 = .ok (.aload_n 0, 1) := by decide +kernel
theorem dX11_runs_43 : decode cX11_runs 43 = .ok (.getfield 35, 3) := by decide +kernel
theorem dX11_runs_46 : decode cX11_runs 46 = .ok (.sipush 199, 3) := by decide +kernel
theorem dX11_runs_49 : decode cX11_runs 49 = .ok (.iaload, 1) := by decide +kernel
theorem dX11_runs_50 : decode cX11_runs 50 = .ok (.invokevirtual 512, 3) := by decide +kernel
theorem dX11_runs_53 : decode cX11_runs 53 = .ok (.return_, 1) := by decide +kernel
set_option maxRecDepth 20000 in
theorem ggX11_live_X11_isIn : GoodIn wsX11_live wsX11_isIn := goodIn_r _ [16] (by decide +kernel) (by decide +kernel)
set_option maxRecDepth 20000 in
theorem gX11_live_X11_isIn : GoodIn wsX11_live (va_wsS RX11 106 yX11_isIn wsX11_isIn) := goodIn_app (goodIn_of _ (by decide +kernel)) ggX11_live_X11_isIn
set_option maxRecDepth 20000 in
theorem ggX11_live_X11_refuse : GoodIn wsX11_live wsX11_refuse := goodIn_r _ [20, 2, 127, 128, 129, 130, 131, 132, 133, 134, 135, 136, 137, 138, 139, 140, 141, 142, 143, 144, 145, 146, 147, 148, 149, 150, 151, 152, 153, 154, 155, 156, 157, 158, 159, 160, 161, 162, 163, 164, 165, 166, 167, 168, 169, 170, 171, 172] (by decide +kernel) (by decide +kernel)
set_option maxRecDepth 20000 in
theorem gX11_live_X11_refuse : GoodIn wsX11_live (wsV RX11 340 RX11 yX11_refuse wsX11_refuse) := goodIn_app (goodIn_of _ (by decide +kernel)) ggX11_live_X11_refuse
set_option maxRecDepth 20000 in
theorem ggX11_live_X11_runs : GoodIn wsX11_live wsX11_runs := goodIn_r _ [24, 25, 12, 6, 7, 8, 9, 10, 26, 4, 27, 28, 29, 15, 30, 31, 32, 33, 34, 35, 36, 37, 38, 39, 40, 41, 42, 43, 44, 45, 46, 47, 48, 49, 50, 51, 52, 53, 54, 55, 56, 57, 58, 59, 60, 61, 62, 63, 64, 65, 66, 67, 68, 69, 70, 71, 72, 73, 74, 75, 76, 77, 78, 79, 80, 81, 82, 83, 84, 85, 86, 87, 88, 89, 90, 91, 92, 93, 94, 95, 96, 97, 98, 99, 100, 101, 102, 103, 104, 105, 106, 107, 108, 109, 110, 111, 112, 113, 114, 115, 116, 117, 118, 119, 120, 121, 122, 123, 124, 125, 126, 127, 128, 129, 130, 131, 132, 133, 134, 135, 136, 137, 138, 139, 140, 141, 142, 143, 144, 145, 146, 147, 148, 149, 150, 151, 152, 153, 154, 155, 156, 157, 158, 159, 160, 161, 162, 163, 164, 165, 166, 167, 168, 169, 170, 171, 172] (by decide +kernel) (by decide +kernel)
set_option maxRecDepth 20000 in
theorem gX11_live_X11_runs : GoodIn wsX11_live (wsV RX11 520 RX11 yX11_runs wsX11_runs) := goodIn_app (goodIn_of _ (by decide +kernel)) ggX11_live_X11_runs
theorem dX11_live_0 : decode cX11_live 0 = .ok (.aload_n 0, 1) := by decide +kernel
theorem dX11_live_1 : decode cX11_live 1 = .ok (.iconst 0, 1) := by decide +kernel
theorem dX11_live_2 : decode cX11_live 2 = .ok (.putfield 71, 3) := by decide +kernel
theorem dX11_live_5 : decode cX11_live 5 = .ok (.aload_n 0, 1) := by decide +kernel
theorem dX11_live_6 : decode cX11_live 6 = .ok (.iconst 0, 1) := by decide +kernel
theorem dX11_live_7 : decode cX11_live 7 = .ok (.putfield 74, 3) := by decide +kernel
theorem dX11_live_10 : decode cX11_live 10 = .ok (.iload_n 1, 1) := by decide +kernel
theorem dX11_live_11 : decode cX11_live 11 = .ok (.i2l, 1) := by decide +kernel
theorem dX11_live_12 : decode cX11_live 12 = .ok (.lconst 0, 1) := by decide +kernel
theorem dX11_live_13 : decode cX11_live 13 = .ok (.ldc2_w 518, 3) := by decide +kernel
theorem dX11_live_16 : decode cX11_live 16 = .ok (.invokestatic 106, 3) := by decide +kernel
theorem dX11_live_19 : decode cX11_live 19 = .ok (.ifCond .ne 9, 3) := by decide +kernel
theorem dX11_live_22 : decode cX11_live 22 = .ok (.aload_n 0, 1) := by decide +kernel
theorem dX11_live_23 : decode cX11_live 23 = .ok (.iconst 5, 1) := by decide +kernel
theorem dX11_live_24 : decode cX11_live 24 = .ok (.invokevirtual 340, 3) := by decide +kernel
theorem dX11_live_27 : decode cX11_live 27 = .ok (.ireturn, 1) := by decide +kernel
theorem dX11_live_28 : decode cX11_live 28 = .ok (.aload_n 0, 1) := by decide +kernel
theorem dX11_live_29 : decode cX11_live 29 = .ok (.getfield 35, 3) := by decide +kernel
theorem dX11_live_32 : decode cX11_live 32 = .ok (.sipush 198, 3) := by decide +kernel
theorem dX11_live_35 : decode cX11_live 35 = .ok (.iaload, 1) := by decide +kernel
theorem dX11_live_36 : decode cX11_live 36 = .ok (.ifCond .ne 10, 3) := by decide +kernel
theorem dX11_live_39 : decode cX11_live 39 = .ok (.aload_n 0, 1) := by decide +kernel
theorem dX11_live_40 : decode cX11_live 40 = .ok (.bipush 8, 2) := by decide +kernel
theorem dX11_live_42 : decode cX11_live 42 = .ok (.invokevirtual 340, 3) := by decide +kernel
theorem dX11_live_45 : decode cX11_live 45 = .ok (.ireturn, 1) := by decide +kernel
theorem dX11_live_46 : decode cX11_live 46 = .ok (.aload_n 0, 1) := by decide +kernel
theorem dX11_live_47 : decode cX11_live 47 = .ok (.iload_n 1, 1) := by decide +kernel
theorem dX11_live_48 : decode cX11_live 48 = .ok (.invokevirtual 520, 3) := by decide +kernel
theorem dX11_live_51 : decode cX11_live 51 = .ok (.aload_n 0, 1) := by decide +kernel
theorem dX11_live_52 : decode cX11_live 52 = .ok (.getfield 65, 3) := by decide +kernel
theorem dX11_live_55 : decode cX11_live 55 = .ok (.iconst 0, 1) := by decide +kernel
theorem dX11_live_56 : decode cX11_live 56 = .ok (.aload_n 0, 1) := by decide +kernel
theorem dX11_live_57 : decode cX11_live 57 = .ok (.getfield 503, 3) := by decide +kernel
theorem dX11_live_60 : decode cX11_live 60 = .ok (.iastore, 1) := by decide +kernel
theorem dX11_live_61 : decode cX11_live 61 = .ok (.aload_n 0, 1) := by decide +kernel
theorem dX11_live_62 : decode cX11_live 62 = .ok (.getfield 65, 3) := by decide +kernel
theorem dX11_live_65 : decode cX11_live 65 = .ok (.iconst 1, 1) := by decide +kernel
theorem dX11_live_66 : decode cX11_live 66 = .ok (.aload_n 0, 1) := by decide +kernel
theorem dX11_live_67 : decode cX11_live 67 = .ok (.getfield 479, 3) := by decide +kernel
theorem dX11_live_70 : decode cX11_live 70 = .ok (.iastore, 1) := by decide +kernel
theorem dX11_live_71 : decode cX11_live 71 = .ok (.aload_n 0, 1) := by decide +kernel
theorem dX11_live_72 : decode cX11_live 72 = .ok (.getfield 65, 3) := by decide +kernel
theorem dX11_live_75 : decode cX11_live 75 = .ok (.iconst 2, 1) := by decide +kernel
theorem dX11_live_76 : decode cX11_live 76 = .ok (.aload_n 0, 1) := by decide +kernel
theorem dX11_live_77 : decode cX11_live 77 = .ok (.getfield 482, 3) := by decide +kernel
theorem dX11_live_80 : decode cX11_live 80 = .ok (.iastore, 1) := by decide +kernel
theorem dX11_live_81 : decode cX11_live 81 = .ok (.aload_n 0, 1) := by decide +kernel
theorem dX11_live_82 : decode cX11_live 82 = .ok (.getfield 65, 3) := by decide +kernel
theorem dX11_live_85 : decode cX11_live 85 = .ok (.iconst 3, 1) := by decide +kernel
theorem dX11_live_86 : decode cX11_live 86 = .ok (.aload_n 0, 1) := by decide +kernel
theorem dX11_live_87 : decode cX11_live 87 = .ok (.getfield 485, 3) := by decide +kernel
theorem dX11_live_90 : decode cX11_live 90 = .ok (.iastore, 1) := by decide +kernel
theorem dX11_live_91 : decode cX11_live 91 = .ok (.aload_n 0, 1) := by decide +kernel
theorem dX11_live_92 : decode cX11_live 92 = .ok (.getfield 65, 3) := by decide +kernel
theorem dX11_live_95 : decode cX11_live 95 = .ok (.iconst 4, 1) := by decide +kernel
theorem dX11_live_96 : decode cX11_live 96 = .ok (.aload_n 0, 1) := by decide +kernel
theorem dX11_live_97 : decode cX11_live 97 = .ok (.getfield 500, 3) := by decide +kernel
theorem dX11_live_100 : decode cX11_live 100 = .ok (.iastore, 1) := by decide +kernel
theorem dX11_live_101 : decode cX11_live 101 = .ok (.aload_n 0, 1) := by decide +kernel
theorem dX11_live_102 : decode cX11_live 102 = .ok (.iconst 1, 1) := by decide +kernel
theorem dX11_live_103 : decode cX11_live 103 = .ok (.putfield 523, 3) := by decide +kernel
theorem dX11_live_106 : decode cX11_live 106 = .ok (.aload_n 0, 1) := by decide +kernel
theorem dX11_live_107 : decode cX11_live 107 = .ok (.getfield 494, 3) := by decide +kernel
theorem dX11_live_110 : decode cX11_live 110 = .ok (.ireturn, 1) := by decide +kernel
set_option maxRecDepth 20000 in
theorem ggX11_lived_X11_isIn : GoodIn wsX11_lived wsX11_isIn := goodIn_r _ [9] (by decide +kernel) (by decide +kernel)
set_option maxRecDepth 20000 in
theorem gX11_lived_X11_isIn : GoodIn wsX11_lived (va_wsS RX11 106 yX11_isIn wsX11_isIn) := goodIn_app (goodIn_of _ (by decide +kernel)) ggX11_lived_X11_isIn
set_option maxRecDepth 20000 in
theorem ggX11_lived_X11_refuse : GoodIn wsX11_lived wsX11_refuse := goodIn_r _ [13, 2, 14, 15, 16, 17, 18, 19, 20, 21, 22, 23, 24, 25, 26, 27, 28, 29, 30, 31, 32, 33, 34, 35, 36, 37, 38, 39, 40, 41, 42, 43, 44, 45, 46, 47, 48, 49, 50, 51, 52, 53, 54, 55, 56, 57, 58, 59] (by decide +kernel) (by decide +kernel)
set_option maxRecDepth 20000 in
theorem gX11_lived_X11_refuse : GoodIn wsX11_lived (wsV RX11 340 RX11 yX11_refuse wsX11_refuse) := goodIn_app (goodIn_of _ (by decide +kernel)) ggX11_lived_X11_refuse
theorem dX11_lived_0 : decode cX11_lived 0 = .ok (.aload_n 0, 1) := by decide +kernel
theorem dX11_lived_1 : decode cX11_lived 1 = .ok (.iconst 0, 1) := by decide +kernel
theorem dX11_lived_2 : decode cX11_lived 2 = .ok (.putfield 71, 3) := by decide +kernel
theorem dX11_lived_5 : decode cX11_lived 5 = .ok (.aload_n 0, 1) := by decide +kernel
theorem dX11_lived_6 : decode cX11_lived 6 = .ok (.iconst 0, 1) := by decide +kernel
theorem dX11_lived_7 : decode cX11_lived 7 = .ok (.putfield 74, 3) := by decide +kernel
theorem dX11_lived_10 : decode cX11_lived 10 = .ok (.iload_n 1, 1) := by decide +kernel
theorem dX11_lived_11 : decode cX11_lived 11 = .ok (.i2l, 1) := by decide +kernel
theorem dX11_lived_12 : decode cX11_lived 12 = .ok (.lconst 0, 1) := by decide +kernel
theorem dX11_lived_13 : decode cX11_lived 13 = .ok (.ldc2_w 526, 3) := by decide +kernel
theorem dX11_lived_16 : decode cX11_lived 16 = .ok (.invokestatic 106, 3) := by decide +kernel
theorem dX11_lived_19 : decode cX11_lived 19 = .ok (.ifCond .ne 9, 3) := by decide +kernel
theorem dX11_lived_22 : decode cX11_lived 22 = .ok (.aload_n 0, 1) := by decide +kernel
theorem dX11_lived_23 : decode cX11_lived 23 = .ok (.iconst 5, 1) := by decide +kernel
theorem dX11_lived_24 : decode cX11_lived 24 = .ok (.invokevirtual 340, 3) := by decide +kernel
theorem dX11_lived_27 : decode cX11_lived 27 = .ok (.ireturn, 1) := by decide +kernel
theorem dX11_lived_28 : decode cX11_lived 28 = .ok (.aload_n 0, 1) := by decide +kernel
theorem dX11_lived_29 : decode cX11_lived 29 = .ok (.getfield 523, 3) := by decide +kernel
theorem dX11_lived_32 : decode cX11_lived 32 = .ok (.ifCond .eq 12, 3) := by decide +kernel
theorem dX11_lived_35 : decode cX11_lived 35 = .ok (.aload_n 0, 1) := by decide +kernel
theorem dX11_lived_36 : decode cX11_lived 36 = .ok (.getfield 65, 3) := by decide +kernel
theorem dX11_lived_39 : decode cX11_lived 39 = .ok (.iload_n 1, 1) := by decide +kernel
theorem dX11_lived_40 : decode cX11_lived 40 = .ok (.iaload, 1) := by decide +kernel
theorem dX11_lived_41 : decode cX11_lived 41 = .ok (.goto 9, 3) := by decide +kernel
theorem dX11_lived_44 : decode cX11_lived 44 = .ok (.aload_n 0, 1) := by decide +kernel
theorem dX11_lived_45 : decode cX11_lived 45 = .ok (.bipush 8, 2) := by decide +kernel
theorem dX11_lived_47 : decode cX11_lived 47 = .ok (.invokevirtual 340, 3) := by decide +kernel
theorem dX11_lived_50 : decode cX11_lived 50 = .ok (.ireturn, 1) := by decide +kernel
set_option maxRecDepth 20000 in
theorem ggX11_mean_X11_isCropAt : GoodIn wsX11_mean wsX11_isCropAt := goodIn_r _ [10, 4, 11, 12, 9, 13, 139, 140, 141, 142, 143, 144, 145, 146, 147, 148, 149, 150, 151, 152, 153, 154, 155, 156, 157, 158, 159, 160, 161, 162, 163, 164, 165, 166, 167, 168, 169, 170, 171, 172, 173, 174, 175, 176, 177, 178, 179, 180, 181, 182, 183, 184] (by decide +kernel) (by decide +kernel)
set_option maxRecDepth 20000 in
theorem gX11_mean_X11_isCropAt : GoodIn wsX11_mean (wsV RX11 352 RX11 yX11_isCropAt wsX11_isCropAt) := goodIn_app (goodIn_of _ (by decide +kernel)) ggX11_mean_X11_isCropAt
set_option maxRecDepth 20000 in
theorem ggX11_mean_X11_no : GoodIn wsX11_mean wsX11_no := goodIn_r _ [17, 2, 139, 140, 141, 142, 143, 144, 145, 146, 147, 148, 149, 150, 151, 152, 153, 154, 155, 156, 157, 158, 159, 160, 161, 162, 163, 164, 165, 166, 167, 168, 169, 170, 171, 172, 173, 174, 175, 176, 177, 178, 179, 180, 181, 182, 183, 184] (by decide +kernel) (by decide +kernel)
set_option maxRecDepth 20000 in
theorem gX11_mean_X11_no : GoodIn wsX11_mean (wsV RX11 86 RX11 yX11_no wsX11_no) := goodIn_app (goodIn_of _ (by decide +kernel)) ggX11_mean_X11_no
set_option maxRecDepth 20000 in
theorem ggX11_mean_X11_isIn : GoodIn wsX11_mean wsX11_isIn := goodIn_r _ [13] (by decide +kernel) (by decide +kernel)
set_option maxRecDepth 20000 in
theorem gX11_mean_X11_isIn : GoodIn wsX11_mean (va_wsS RX11 106 yX11_isIn wsX11_isIn) := goodIn_app (goodIn_of _ (by decide +kernel)) ggX11_mean_X11_isIn
set_option maxRecDepth 20000 in
theorem ggX11_mean_X11_runs : GoodIn wsX11_mean wsX11_runs := goodIn_r _ [21, 22, 23, 24, 25, 26, 27, 28, 29, 4, 30, 31, 32, 9, 33, 34, 35, 36, 37, 38, 39, 40, 41, 42, 43, 44, 45, 46, 47, 48, 49, 50, 51, 52, 53, 54, 55, 56, 57, 58, 59, 60, 61, 62, 63, 64, 65, 66, 67, 68, 69, 70, 71, 72, 73, 74, 75, 76, 77, 78, 79, 80, 81, 82, 83, 84, 85, 86, 87, 88, 89, 90, 91, 92, 93, 94, 95, 96, 97, 98, 99, 100, 101, 102, 103, 104, 105, 106, 107, 108, 109, 110, 111, 112, 113, 114, 115, 116, 117, 118, 119, 120, 121, 122, 123, 124, 125, 126, 127, 128, 129, 139, 140, 141, 142, 143, 144, 145, 146, 147, 148, 149, 150, 151, 152, 153, 154, 155, 156, 157, 158, 159, 160, 161, 162, 163, 164, 165, 166, 167, 168, 169, 170, 171, 172, 173, 174, 175, 176, 177, 178, 179, 180, 181, 182, 183, 184] (by decide +kernel) (by decide +kernel)
set_option maxRecDepth 20000 in
theorem gX11_mean_X11_runs : GoodIn wsX11_mean (wsV RX11 520 RX11 yX11_runs wsX11_runs) := goodIn_app (goodIn_of _ (by decide +kernel)) ggX11_mean_X11_runs
set_option maxRecDepth 20000 in
theorem ggX11_mean_X11_fraction : GoodIn wsX11_mean wsX11_fraction := goodIn_r _ [133, 134, 135, 94, 136, 137, 138, 139, 140, 141, 142, 143, 144, 145, 146, 147, 148, 149, 150, 151, 152, 153, 154, 155, 156, 157, 158, 159, 160, 161, 162, 163, 164, 165, 166, 167, 168, 169, 170, 171, 172, 173, 174, 175, 176, 177, 178, 179, 180, 181, 182, 183, 184] (by decide +kernel) (by decide +kernel)
set_option maxRecDepth 20000 in
theorem gX11_mean_X11_fraction : GoodIn wsX11_mean (wsV RX11 444 RX11 yX11_fraction wsX11_fraction) := goodIn_app (goodIn_of _ (by decide +kernel)) ggX11_mean_X11_fraction
theorem dX11_mean_0 : decode cX11_mean 0 = .ok (.aload_n 0, 1) := by decide +kernel
theorem dX11_mean_1 : decode cX11_mean 1 = .ok (.iconst 0, 1) := by decide +kernel
theorem dX11_mean_2 : decode cX11_mean 2 = .ok (.putfield 71, 3) := by decide +kernel
theorem dX11_mean_5 : decode cX11_mean 5 = .ok (.aload_n 0, 1) := by decide +kernel
theorem dX11_mean_6 : decode cX11_mean 6 = .ok (.iconst 0, 1) := by decide +kernel
theorem dX11_mean_7 : decode cX11_mean 7 = .ok (.putfield 74, 3) := by decide +kernel
theorem dX11_mean_10 : decode cX11_mean 10 = .ok (.aload_n 0, 1) := by decide +kernel
theorem dX11_mean_11 : decode cX11_mean 11 = .ok (.iload_n 1, 1) := by decide +kernel
theorem dX11_mean_12 : decode cX11_mean 12 = .ok (.invokevirtual 352, 3) := by decide +kernel
theorem dX11_mean_15 : decode cX11_mean 15 = .ok (.ifCond .ne 9, 3) := by decide +kernel
theorem dX11_mean_18 : decode cX11_mean 18 = .ok (.aload_n 0, 1) := by decide +kernel
theorem dX11_mean_19 : decode cX11_mean 19 = .ok (.iconst 2, 1) := by decide +kernel
theorem dX11_mean_20 : decode cX11_mean 20 = .ok (.invokevirtual 86, 3) := by decide +kernel
theorem dX11_mean_23 : decode cX11_mean 23 = .ok (.ireturn, 1) := by decide +kernel
theorem dX11_mean_24 : decode cX11_mean 24 = .ok (.iload_n 3, 1) := by decide +kernel
theorem dX11_mean_25 : decode cX11_mean 25 = .ok (.i2l, 1) := by decide +kernel
theorem dX11_mean_26 : decode cX11_mean 26 = .ok (.lconst 1, 1) := by decide +kernel
theorem dX11_mean_27 : decode cX11_mean 27 = .ok (.ldc2_w 165, 3) := by decide +kernel
theorem dX11_mean_30 : decode cX11_mean 30 = .ok (.invokestatic 106, 3) := by decide +kernel
theorem dX11_mean_33 : decode cX11_mean 33 = .ok (.ifCond .eq 18, 3) := by decide +kernel
theorem dX11_mean_36 : decode cX11_mean 36 = .ok (.iload_n 2, 1) := by decide +kernel
theorem dX11_mean_37 : decode cX11_mean 37 = .ok (.i2l, 1) := by decide +kernel
theorem dX11_mean_38 : decode cX11_mean 38 = .ok (.lconst 0, 1) := by decide +kernel
theorem dX11_mean_39 : decode cX11_mean 39 = .ok (.sipush 10000, 3) := by decide +kernel
theorem dX11_mean_42 : decode cX11_mean 42 = .ok (.iload_n 3, 1) := by decide +kernel
theorem dX11_mean_43 : decode cX11_mean 43 = .ok (.isub, 1) := by decide +kernel
theorem dX11_mean_44 : decode cX11_mean 44 = .ok (.i2l, 1) := by decide +kernel
theorem dX11_mean_45 : decode cX11_mean 45 = .ok (.invokestatic 106, 3) := by decide +kernel
theorem dX11_mean_48 : decode cX11_mean 48 = .ok (.ifCond .ne 9, 3) := by decide +kernel
theorem dX11_mean_51 : decode cX11_mean 51 = .ok (.aload_n 0, 1) := by decide +kernel
theorem dX11_mean_52 : decode cX11_mean 52 = .ok (.iconst 5, 1) := by decide +kernel
theorem dX11_mean_53 : decode cX11_mean 53 = .ok (.invokevirtual 86, 3) := by decide +kernel
theorem dX11_mean_56 : decode cX11_mean 56 = .ok (.ireturn, 1) := by decide +kernel
theorem dX11_mean_57 : decode cX11_mean 57 = .ok (.aload_n 0, 1) := by decide +kernel
theorem dX11_mean_58 : decode cX11_mean 58 = .ok (.getfield 35, 3) := by decide +kernel
theorem dX11_mean_61 : decode cX11_mean 61 = .ok (.sipush 198, 3) := by decide +kernel
theorem dX11_mean_64 : decode cX11_mean 64 = .ok (.iaload, 1) := by decide +kernel
theorem dX11_mean_65 : decode cX11_mean 65 = .ok (.ifCond .ne 10, 3) := by decide +kernel
theorem dX11_mean_68 : decode cX11_mean 68 = .ok (.aload_n 0, 1) := by decide +kernel
theorem dX11_mean_69 : decode cX11_mean 69 = .ok (.bipush 8, 2) := by decide +kernel
theorem dX11_mean_71 : decode cX11_mean 71 = .ok (.invokevirtual 86, 3) := by decide +kernel
theorem dX11_mean_74 : decode cX11_mean 74 = .ok (.ireturn, 1) := by decide +kernel
theorem dX11_mean_75 : decode cX11_mean 75 = .ok (.iconst 0, 1) := by decide +kernel
theorem dX11_mean_76 : decode cX11_mean 76 = .ok (.istore 4, 2) := by decide +kernel
theorem dX11_mean_78 : decode cX11_mean 78 = .ok (.iload 4, 2) := by decide +kernel
theorem dX11_mean_80 : decode cX11_mean 80 = .ok (.sipush 198, 3) := by decide +kernel
theorem dX11_mean_83 : decode cX11_mean 83 = .ok (.if_icmp .ge 23, 3) := by decide +kernel
theorem dX11_mean_86 : decode cX11_mean 86 = .ok (.aload_n 0, 1) := by decide +kernel
theorem dX11_mean_87 : decode cX11_mean 87 = .ok (.getfield 68, 3) := by decide +kernel
theorem dX11_mean_90 : decode cX11_mean 90 = .ok (.iload 4, 2) := by decide +kernel
theorem dX11_mean_92 : decode cX11_mean 92 = .ok (.aload_n 0, 1) := by decide +kernel
theorem dX11_mean_93 : decode cX11_mean 93 = .ok (.getfield 35, 3) := by decide +kernel
theorem dX11_mean_96 : decode cX11_mean 96 = .ok (.iload 4, 2) := by decide +kernel
theorem dX11_mean_98 : decode cX11_mean 98 = .ok (.iaload, 1) := by decide +kernel
theorem dX11_mean_99 : decode cX11_mean 99 = .ok (.iastore, 1) := by decide +kernel
theorem dX11_mean_100 : decode cX11_mean 100 = .ok (.iinc 4 1, 3) := by decide +kernel
theorem dX11_mean_103 : decode cX11_mean 103 = .ok (.goto (-25), 3) := by decide +kernel
theorem dX11_mean_106 : decode cX11_mean 106 = .ok (.lconst 0, 1) := by decide +kernel
theorem dX11_mean_107 : decode cX11_mean 107 = .ok (.lstore 4, 2) := by decide +kernel
theorem dX11_mean_109 : decode cX11_mean 109 = .ok (.iconst 0, 1) := by decide +kernel
theorem dX11_mean_110 : decode cX11_mean 110 = .ok (.istore 6, 2) := by decide +kernel
theorem dX11_mean_112 : decode cX11_mean 112 = .ok (.iload 6, 2) := by decide +kernel
theorem dX11_mean_114 : decode cX11_mean 114 = .ok (.iload_n 3, 1) := by decide +kernel
theorem dX11_mean_115 : decode cX11_mean 115 = .ok (.if_icmp .ge 64, 3) := by decide +kernel
theorem dX11_mean_118 : decode cX11_mean 118 = .ok (.aload_n 0, 1) := by decide +kernel
theorem dX11_mean_119 : decode cX11_mean 119 = .ok (.iload_n 2, 1) := by decide +kernel
theorem dX11_mean_120 : decode cX11_mean 120 = .ok (.iload 6, 2) := by decide +kernel
theorem dX11_mean_122 : decode cX11_mean 122 = .ok (.iadd, 1) := by decide +kernel
theorem dX11_mean_123 : decode cX11_mean 123 = .ok (.invokevirtual 520, 3) := by decide +kernel
theorem dX11_mean_126 : decode cX11_mean 126 = .ok (.lload 4, 2) := by decide +kernel
theorem dX11_mean_128 : decode cX11_mean 128 = .ok (.aload_n 0, 1) := by decide +kernel
theorem dX11_mean_129 : decode cX11_mean 129 = .ok (.getfield 35, 3) := by decide +kernel
theorem dX11_mean_132 : decode cX11_mean 132 = .ok (.sipush 194, 3) := by decide +kernel
theorem dX11_mean_135 : decode cX11_mean 135 = .ok (.iload_n 1, 1) := by decide +kernel
theorem dX11_mean_136 : decode cX11_mean 136 = .ok (.iadd, 1) := by decide +kernel
theorem dX11_mean_137 : decode cX11_mean 137 = .ok (.iaload, 1) := by decide +kernel
theorem dX11_mean_138 : decode cX11_mean 138 = .ok (.i2l, 1) := by decide +kernel
theorem dX11_mean_139 : decode cX11_mean 139 = .ok (.ladd, 1) := by decide +kernel
theorem dX11_mean_140 : decode cX11_mean 140 = .ok (.lstore 4, 2) := by decide +kernel
theorem dX11_mean_142 : decode cX11_mean 142 = .ok (.iconst 0, 1) := by decide +kernel
theorem dX11_mean_143 : decode cX11_mean 143 = .ok (.istore 7, 2) := by decide +kernel
theorem dX11_mean_145 : decode cX11_mean 145 = .ok (.iload 7, 2) := by decide +kernel
theorem dX11_mean_147 : decode cX11_mean 147 = .ok (.sipush 198, 3) := by decide +kernel
theorem dX11_mean_150 : decode cX11_mean 150 = .ok (.if_icmp .ge 23, 3) := by decide +kernel
theorem dX11_mean_153 : decode cX11_mean 153 = .ok (.aload_n 0, 1) := by decide +kernel
theorem dX11_mean_154 : decode cX11_mean 154 = .ok (.getfield 35, 3) := by decide +kernel
theorem dX11_mean_157 : decode cX11_mean 157 = .ok (.iload 7, 2) := by decide +kernel
theorem dX11_mean_159 : decode cX11_mean 159 = .ok (.aload_n 0, 1) := by decide +kernel
theorem dX11_mean_160 : decode cX11_mean 160 = .ok (.getfield 68, 3) := by decide +kernel
theorem dX11_mean_163 : decode cX11_mean 163 = .ok (.iload 7, 2) := by decide +kernel
theorem dX11_mean_165 : decode cX11_mean 165 = .ok (.iaload, 1) := by decide +kernel
theorem dX11_mean_166 : decode cX11_mean 166 = .ok (.iastore, 1) := by decide +kernel
theorem dX11_mean_167 : decode cX11_mean 167 = .ok (.iinc 7 1, 3) := by decide +kernel
theorem dX11_mean_170 : decode cX11_mean 170 = .ok (.goto (-25), 3) := by decide +kernel
theorem dX11_mean_173 : decode cX11_mean 173 = .ok (.iinc 6 1, 3) := by decide +kernel
theorem dX11_mean_176 : decode cX11_mean 176 = .ok (.goto (-64), 3) := by decide +kernel
theorem dX11_mean_179 : decode cX11_mean 179 = .ok (.aload_n 0, 1) := by decide +kernel
theorem dX11_mean_180 : decode cX11_mean 180 = .ok (.lload 4, 2) := by decide +kernel
theorem dX11_mean_182 : decode cX11_mean 182 = .ok (.iload_n 3, 1) := by decide +kernel
theorem dX11_mean_183 : decode cX11_mean 183 = .ok (.i2l, 1) := by decide +kernel
theorem dX11_mean_184 : decode cX11_mean 184 = .ok (.invokevirtual 444, 3) := by decide +kernel
theorem dX11_mean_187 : decode cX11_mean 187 = .ok (.ireturn, 1) := by decide +kernel
theorem dX11_copy_0 : decode cX11_copy 0 = .ok (.iconst 0, 1) := by decide +kernel
theorem dX11_copy_1 : decode cX11_copy 1 = .ok (.istore_n 3, 1) := by decide +kernel
theorem dX11_copy_2 : decode cX11_copy 2 = .ok (.iload_n 3, 1) := by decide +kernel
theorem dX11_copy_3 : decode cX11_copy 3 = .ok (.sipush 475, 3) := by decide +kernel
theorem dX11_copy_6 : decode cX11_copy 6 = .ok (.if_icmp .ge 33, 3) := by decide +kernel
theorem dX11_copy_9 : decode cX11_copy 9 = .ok (.aload_n 0, 1) := by decide +kernel
theorem dX11_copy_10 : decode cX11_copy 10 = .ok (.getfield 35, 3) := by decide +kernel
theorem dX11_copy_13 : decode cX11_copy 13 = .ok (.sipush 475, 3) := by decide +kernel
theorem dX11_copy_16 : decode cX11_copy 16 = .ok (.iload_n 2, 1) := by decide +kernel
theorem dX11_copy_17 : decode cX11_copy 17 = .ok (.imul, 1) := by decide +kernel
theorem dX11_copy_18 : decode cX11_copy 18 = .ok (.iload_n 3, 1) := by decide +kernel
theorem dX11_copy_19 : decode cX11_copy 19 = .ok (.iadd, 1) := by decide +kernel
theorem dX11_copy_20 : decode cX11_copy 20 = .ok (.aload_n 0, 1) := by decide +kernel
theorem dX11_copy_21 : decode cX11_copy 21 = .ok (.getfield 35, 3) := by decide +kernel
theorem dX11_copy_24 : decode cX11_copy 24 = .ok (.sipush 475, 3) := by decide +kernel
theorem dX11_copy_27 : decode cX11_copy 27 = .ok (.iload_n 1, 1) := by decide +kernel
theorem dX11_copy_28 : decode cX11_copy 28 = .ok (.imul, 1) := by decide +kernel
theorem dX11_copy_29 : decode cX11_copy 29 = .ok (.iload_n 3, 1) := by decide +kernel
theorem dX11_copy_30 : decode cX11_copy 30 = .ok (.iadd, 1) := by decide +kernel
theorem dX11_copy_31 : decode cX11_copy 31 = .ok (.iaload, 1) := by decide +kernel
theorem dX11_copy_32 : decode cX11_copy 32 = .ok (.iastore, 1) := by decide +kernel
theorem dX11_copy_33 : decode cX11_copy 33 = .ok (.iinc 3 1, 3) := by decide +kernel
theorem dX11_copy_36 : decode cX11_copy 36 = .ok (.goto (-34), 3) := by decide +kernel
theorem dX11_copy_39 : decode cX11_copy 39 = .ok (.iconst 0, 1) := by decide +kernel
theorem dX11_copy_40 : decode cX11_copy 40 = .ok (.istore_n 3, 1) := by decide +kernel
theorem dX11_copy_41 : decode cX11_copy 41 = .ok (.iload_n 3, 1) := by decide +kernel
theorem dX11_copy_42 : decode cX11_copy 42 = .ok (.bipush 26, 2) := by decide +kernel
theorem dX11_copy_44 : decode cX11_copy 44 = .ok (.if_icmp .ge 31, 3) := by decide +kernel
theorem dX11_copy_47 : decode cX11_copy 47 = .ok (.aload_n 0, 1) := by decide +kernel
theorem dX11_copy_48 : decode cX11_copy 48 = .ok (.getfield 41, 3) := by decide +kernel
theorem dX11_copy_51 : decode cX11_copy 51 = .ok (.bipush 26, 2) := by decide +kernel
theorem dX11_copy_53 : decode cX11_copy 53 = .ok (.iload_n 2, 1) := by decide +kernel
theorem dX11_copy_54 : decode cX11_copy 54 = .ok (.imul, 1) := by decide +kernel
theorem dX11_copy_55 : decode cX11_copy 55 = .ok (.iload_n 3, 1) := by decide +kernel
theorem dX11_copy_56 : decode cX11_copy 56 = .ok (.iadd, 1) := by decide +kernel
theorem dX11_copy_57 : decode cX11_copy 57 = .ok (.aload_n 0, 1) := by decide +kernel
theorem dX11_copy_58 : decode cX11_copy 58 = .ok (.getfield 41, 3) := by decide +kernel
theorem dX11_copy_61 : decode cX11_copy 61 = .ok (.bipush 26, 2) := by decide +kernel
theorem dX11_copy_63 : decode cX11_copy 63 = .ok (.iload_n 1, 1) := by decide +kernel
theorem dX11_copy_64 : decode cX11_copy 64 = .ok (.imul, 1) := by decide +kernel
theorem dX11_copy_65 : decode cX11_copy 65 = .ok (.iload_n 3, 1) := by decide +kernel
theorem dX11_copy_66 : decode cX11_copy 66 = .ok (.iadd, 1) := by decide +kernel
theorem dX11_copy_67 : decode cX11_copy 67 = .ok (.laload, 1) := by decide +kernel
theorem dX11_copy_68 : decode cX11_copy 68 = .ok (.lastore, 1) := by decide +kernel
theorem dX11_copy_69 : decode cX11_copy 69 = .ok (.iinc 3 1, 3) := by decide +kernel
theorem dX11_copy_72 : decode cX11_copy 72 = .ok (.goto (-31), 3) := by decide +kernel
theorem dX11_copy_75 : decode cX11_copy 75 = .ok (.return_, 1) := by decide +kernel
set_option maxRecDepth 20000 in
theorem ggX11_mark_X11_refuse : GoodIn wsX11_mark wsX11_refuse := goodIn_r _ [8, 2, 15, 16, 17, 18, 19, 20, 21, 22, 23, 24, 25, 26, 27, 28, 29, 30, 31, 32, 33, 34, 35, 36, 37, 38, 39, 40, 41, 42, 43, 44, 45, 46, 47, 48, 49, 50, 51, 52, 53, 54, 55, 56, 57, 58, 59, 60] (by decide +kernel) (by decide +kernel)
set_option maxRecDepth 20000 in
theorem gX11_mark_X11_refuse : GoodIn wsX11_mark (wsV RX11 340 RX11 yX11_refuse wsX11_refuse) := goodIn_app (goodIn_of _ (by decide +kernel)) ggX11_mark_X11_refuse
set_option maxRecDepth 20000 in
theorem ggX11_mark_X11_copy : GoodIn wsX11_mark wsX11_copy := goodIn_r _ [12, 13, 14, 15, 16, 17, 18, 19, 20, 21, 22, 23, 24, 25, 26, 27, 28, 29, 30, 31, 32, 33, 34, 35, 36, 37, 38, 39, 40, 41, 42, 43, 44, 45, 46, 47, 48, 49, 50, 51, 52, 53, 54, 55, 56, 57, 58, 59, 60] (by decide +kernel) (by decide +kernel)
set_option maxRecDepth 20000 in
theorem gX11_mark_X11_copy : GoodIn wsX11_mark (wsV RX11 320 RX11 yX11_copy wsX11_copy) := goodIn_app (goodIn_of _ (by decide +kernel)) ggX11_mark_X11_copy
theorem dX11_mark_0 : decode cX11_mark 0 = .ok (.aload_n 0, 1) := by decide +kernel
theorem dX11_mark_1 : decode cX11_mark 1 = .ok (.iconst 0, 1) := by decide +kernel
theorem dX11_mark_2 : decode cX11_mark 2 = .ok (.putfield 71, 3) := by decide +kernel
theorem dX11_mark_5 : decode cX11_mark 5 = .ok (.aload_n 0, 1) := by decide +kernel
theorem dX11_mark_6 : decode cX11_mark 6 = .ok (.iconst 0, 1) := by decide +kernel
theorem dX11_mark_7 : decode cX11_mark 7 = .ok (.putfield 74, 3) := by decide +kernel
theorem dX11_mark_10 : decode cX11_mark 10 = .ok (.aload_n 0, 1) := by decide +kernel
theorem dX11_mark_11 : decode cX11_mark 11 = .ok (.getfield 528, 3) := by decide +kernel
theorem dX11_mark_14 : decode cX11_mark 14 = .ok (.iconst 3, 1) := by decide +kernel
theorem dX11_mark_15 : decode cX11_mark 15 = .ok (.if_icmp .ne 10, 3) := by decide +kernel
theorem dX11_mark_18 : decode cX11_mark 18 = .ok (.aload_n 0, 1) := by decide +kernel
theorem dX11_mark_19 : decode cX11_mark 19 = .ok (.bipush 7, 2) := by decide +kernel
theorem dX11_mark_21 : decode cX11_mark 21 = .ok (.invokevirtual 340, 3) := by decide +kernel
theorem dX11_mark_24 : decode cX11_mark 24 = .ok (.ireturn, 1) := by decide +kernel
theorem dX11_mark_25 : decode cX11_mark 25 = .ok (.aload_n 0, 1) := by decide +kernel
theorem dX11_mark_26 : decode cX11_mark 26 = .ok (.dup, 1) := by decide +kernel
theorem dX11_mark_27 : decode cX11_mark 27 = .ok (.getfield 528, 3) := by decide +kernel
theorem dX11_mark_30 : decode cX11_mark 30 = .ok (.iconst 1, 1) := by decide +kernel
theorem dX11_mark_31 : decode cX11_mark 31 = .ok (.iadd, 1) := by decide +kernel
theorem dX11_mark_32 : decode cX11_mark 32 = .ok (.putfield 528, 3) := by decide +kernel
theorem dX11_mark_35 : decode cX11_mark 35 = .ok (.aload_n 0, 1) := by decide +kernel
theorem dX11_mark_36 : decode cX11_mark 36 = .ok (.iconst 0, 1) := by decide +kernel
theorem dX11_mark_37 : decode cX11_mark 37 = .ok (.aload_n 0, 1) := by decide +kernel
theorem dX11_mark_38 : decode cX11_mark 38 = .ok (.getfield 528, 3) := by decide +kernel
theorem dX11_mark_41 : decode cX11_mark 41 = .ok (.invokevirtual 320, 3) := by decide +kernel
theorem dX11_mark_44 : decode cX11_mark 44 = .ok (.aload_n 0, 1) := by decide +kernel
theorem dX11_mark_45 : decode cX11_mark 45 = .ok (.getfield 528, 3) := by decide +kernel
theorem dX11_mark_48 : decode cX11_mark 48 = .ok (.ireturn, 1) := by decide +kernel
set_option maxRecDepth 20000 in
theorem ggX11_back_X11_refuse : GoodIn wsX11_back wsX11_refuse := goodIn_r _ [8, 2, 15, 16, 17, 18, 19, 20, 21, 22, 23, 24, 25, 26, 27, 28, 29, 30, 31, 32, 33, 34, 35, 36, 37, 38, 39, 40, 41, 42, 43, 44, 45, 46, 47, 48, 49, 50, 51, 52, 53, 54, 55, 56, 57, 58, 59, 60] (by decide +kernel) (by decide +kernel)
set_option maxRecDepth 20000 in
theorem gX11_back_X11_refuse : GoodIn wsX11_back (wsV RX11 340 RX11 yX11_refuse wsX11_refuse) := goodIn_app (goodIn_of _ (by decide +kernel)) ggX11_back_X11_refuse
set_option maxRecDepth 20000 in
theorem ggX11_back_X11_copy : GoodIn wsX11_back wsX11_copy := goodIn_r _ [12, 13, 14, 15, 16, 17, 18, 19, 20, 21, 22, 23, 24, 25, 26, 27, 28, 29, 30, 31, 32, 33, 34, 35, 36, 37, 38, 39, 40, 41, 42, 43, 44, 45, 46, 47, 48, 49, 50, 51, 52, 53, 54, 55, 56, 57, 58, 59, 60] (by decide +kernel) (by decide +kernel)
set_option maxRecDepth 20000 in
theorem gX11_back_X11_copy : GoodIn wsX11_back (wsV RX11 320 RX11 yX11_copy wsX11_copy) := goodIn_app (goodIn_of _ (by decide +kernel)) ggX11_back_X11_copy
theorem dX11_back_0 : decode cX11_back 0 = .ok (.aload_n 0, 1) := by decide +kernel
theorem dX11_back_1 : decode cX11_back 1 = .ok (.iconst 0, 1) := by decide +kernel
theorem dX11_back_2 : decode cX11_back 2 = .ok (.putfield 71, 3) := by decide +kernel
theorem dX11_back_5 : decode cX11_back 5 = .ok (.aload_n 0, 1) := by decide +kernel
theorem dX11_back_6 : decode cX11_back 6 = .ok (.iconst 0, 1) := by decide +kernel
theorem dX11_back_7 : decode cX11_back 7 = .ok (.putfield 74, 3) := by decide +kernel
theorem dX11_back_10 : decode cX11_back 10 = .ok (.aload_n 0, 1) := by decide +kernel
theorem dX11_back_11 : decode cX11_back 11 = .ok (.getfield 528, 3) := by decide +kernel
theorem dX11_back_14 : decode cX11_back 14 = .ok (.ifCond .ne 10, 3) := by decide +kernel
theorem dX11_back_17 : decode cX11_back 17 = .ok (.aload_n 0, 1) := by decide +kernel
theorem dX11_back_18 : decode cX11_back 18 = .ok (.bipush 8, 2) := by decide +kernel
theorem dX11_back_20 : decode cX11_back 20 = .ok (.invokevirtual 340, 3) := by decide +kernel
theorem dX11_back_23 : decode cX11_back 23 = .ok (.ireturn, 1) := by decide +kernel
theorem dX11_back_24 : decode cX11_back 24 = .ok (.aload_n 0, 1) := by decide +kernel
theorem dX11_back_25 : decode cX11_back 25 = .ok (.aload_n 0, 1) := by decide +kernel
theorem dX11_back_26 : decode cX11_back 26 = .ok (.getfield 528, 3) := by decide +kernel
theorem dX11_back_29 : decode cX11_back 29 = .ok (.iconst 0, 1) := by decide +kernel
theorem dX11_back_30 : decode cX11_back 30 = .ok (.invokevirtual 320, 3) := by decide +kernel
theorem dX11_back_33 : decode cX11_back 33 = .ok (.aload_n 0, 1) := by decide +kernel
theorem dX11_back_34 : decode cX11_back 34 = .ok (.dup, 1) := by decide +kernel
theorem dX11_back_35 : decode cX11_back 35 = .ok (.getfield 528, 3) := by decide +kernel
theorem dX11_back_38 : decode cX11_back 38 = .ok (.iconst 1, 1) := by decide +kernel
theorem dX11_back_39 : decode cX11_back 39 = .ok (.isub, 1) := by decide +kernel
theorem dX11_back_40 : decode cX11_back 40 = .ok (.putfield 528, 3) := by decide +kernel
theorem dX11_back_43 : decode cX11_back 43 = .ok (.aload_n 0, 1) := by decide +kernel
theorem dX11_back_44 : decode cX11_back 44 = .ok (.getfield 528, 3) := by decide +kernel
theorem dX11_back_47 : decode cX11_back 47 = .ok (.ireturn, 1) := by decide +kernel
