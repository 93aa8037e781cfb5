set_option maxRecDepth 20000 in
theorem gX11_talks_X11_pulled : GoodIn wsX11_talks (wsV RX11 371 RX11 yX11_pulled wsX11_pulled) := goodIn_app (goodIn_of _ (by decide +kernel)) ggX11_talks_X11_pulled
set_option maxRecDepth 20000 in
theorem ggX11_talks_X11_votesFor : GoodIn wsX11_talks wsX11_votesFor := goodIn_r _ [30, 1, 2, 3, 4, 5, 6, 7, 8, 9, 31, 32, 33, 34, 35, 36, 37, 38, 39, 40, 41, 42, 43, 44, 45, 46, 47, 48, 49, 50, 51, 52, 53, 54, 55, 56, 57, 58, 59, 60, 61, 62, 63, 64, 65, 66, 67, 68, 69, 70, 71, 72, 73, 74, 75, 76] (by decide +kernel) (by decide +kernel)
set_option maxRecDepth 20000 in
theorem gX11_talks_X11_votesFor : GoodIn wsX11_talks (wsV RX11 374 RX11 yX11_votesFor wsX11_votesFor) := goodIn_app (goodIn_of _ (by decide +kernel)) ggX11_talks_X11_votesFor
set_option maxRecDepth 20000 in
theorem ggX11_talks_X11_cut_ : GoodIn wsX11_talks wsX11_cut_ := goodIn_r _ [20, 21, 22, 16, 23, 24, 25, 26] (by decide +kernel) (by decide +kernel)
set_option maxRecDepth 20000 in
theorem gX11_talks_X11_cut_ : GoodIn wsX11_talks (va_wsS RX11 366 yX11_cut_ wsX11_cut_) := goodIn_app (goodIn_of _ (by decide +kernel)) ggX11_talks_X11_cut_
theorem dX11_talks_0 : decode cX11_talks 0 = .ok (.aload_n 0, 1) := by decide +kernel
theorem dX11_talks_1 : decode cX11_talks 1 = .ok (.getfield 35, 3) := by decide +kernel
theorem dX11_talks_4 : decode cX11_talks 4 = .ok (.bipush 7, 2) := by decide +kernel
theorem dX11_talks_6 : decode cX11_talks 6 = .ok (.dup2, 1) := by decide +kernel
theorem dX11_talks_7 : decode cX11_talks 7 = .ok (.iaload, 1) := by decide +kernel
theorem dX11_talks_8 : decode cX11_talks 8 = .ok (.iconst 1, 1) := by decide +kernel
theorem dX11_talks_9 : decode cX11_talks 9 = .ok (.iadd, 1) := by decide +kernel
theorem dX11_talks_10 : decode cX11_talks 10 = .ok (.iastore, 1) := by decide +kernel
theorem dX11_talks_11 : decode cX11_talks 11 = .ok (.iconst 0, 1) := by decide +kernel
theorem dX11_talks_12 : decode cX11_talks 12 = .ok (.istore_n 2, 1) := by decide +kernel
theorem dX11_talks_13 : decode cX11_talks 13 = .ok (.iload_n 2, 1) := by decide +kernel
theorem dX11_talks_14 : decode cX11_talks 14 = .ok (.aload_n 0, 1) := by decide +kernel
theorem dX11_talks_15 : decode cX11_talks 15 = .ok (.getfield 35, 3) := by decide +kernel
theorem dX11_talks_18 : decode cX11_talks 18 = .ok (.iconst 0, 1) := by decide +kernel
theorem dX11_talks_19 : decode cX11_talks 19 = .ok (.iaload, 1) := by decide +kernel
theorem dX11_talks_20 : decode cX11_talks 20 = .ok (.if_icmp .ge 31, 3) := by decide +kernel
theorem dX11_talks_23 : decode cX11_talks 23 = .ok (.aload_n 0, 1) := by decide +kernel
theorem dX11_talks_24 : decode cX11_talks 24 = .ok (.iload_n 2, 1) := by decide +kernel
theorem dX11_talks_25 : decode cX11_talks 25 = .ok (.invokevirtual 361, 3) := by decide +kernel
theorem dX11_talks_28 : decode cX11_talks 28 = .ok (.ifCond .eq 17, 3) := by decide +kernel
theorem dX11_talks_31 : decode cX11_talks 31 = .ok (.aload_n 0, 1) := by decide +kernel
theorem dX11_talks_32 : decode cX11_talks 32 = .ok (.getfield 35, 3) := by decide +kernel
theorem dX11_talks_35 : decode cX11_talks 35 = .ok (.bipush 42, 2) := by decide +kernel
theorem dX11_talks_37 : decode cX11_talks 37 = .ok (.iload_n 2, 1) := by decide +kernel
theorem dX11_talks_38 : decode cX11_talks 38 = .ok (.iadd, 1) := by decide +kernel
theorem dX11_talks_39 : decode cX11_talks 39 = .ok (.aload_n 0, 1) := by decide +kernel
theorem dX11_talks_40 : decode cX11_talks 40 = .ok (.iload_n 2, 1) := by decide +kernel
theorem dX11_talks_41 : decode cX11_talks 41 = .ok (.invokevirtual 371, 3) := by decide +kernel
theorem dX11_talks_44 : decode cX11_talks 44 = .ok (.iastore, 1) := by decide +kernel
theorem dX11_talks_45 : decode cX11_talks 45 = .ok (.iinc 2 1, 3) := by decide +kernel
theorem dX11_talks_48 : decode cX11_talks 48 = .ok (.goto (-35), 3) := by decide +kernel
theorem dX11_talks_51 : decode cX11_talks 51 = .ok (.iload_n 1, 1) := by decide +kernel
theorem dX11_talks_52 : decode cX11_talks 52 = .ok (.ifCond .eq 28, 3) := by decide +kernel
theorem dX11_talks_55 : decode cX11_talks 55 = .ok (.aload_n 0, 1) := by decide +kernel
theorem dX11_talks_56 : decode cX11_talks 56 = .ok (.getfield 35, 3) := by decide +kernel
theorem dX11_talks_59 : decode cX11_talks 59 = .ok (.iconst 4, 1) := by decide +kernel
theorem dX11_talks_60 : decode cX11_talks 60 = .ok (.iaload, 1) := by decide +kernel
theorem dX11_talks_61 : decode cX11_talks 61 = .ok (.ifCond .eq 19, 3) := by decide +kernel
theorem dX11_talks_64 : decode cX11_talks 64 = .ok (.aload_n 0, 1) := by decide +kernel
theorem dX11_talks_65 : decode cX11_talks 65 = .ok (.getfield 35, 3) := by decide +kernel
theorem dX11_talks_68 : decode cX11_talks 68 = .ok (.bipush 7, 2) := by decide +kernel
theorem dX11_talks_70 : decode cX11_talks 70 = .ok (.iaload, 1) := by decide +kernel
theorem dX11_talks_71 : decode cX11_talks 71 = .ok (.aload_n 0, 1) := by decide +kernel
theorem dX11_talks_72 : decode cX11_talks 72 = .ok (.getfield 35, 3) := by decide +kernel
theorem dX11_talks_75 : decode cX11_talks 75 = .ok (.iconst 4, 1) := by decide +kernel
theorem dX11_talks_76 : decode cX11_talks 76 = .ok (.iaload, 1) := by decide +kernel
theorem dX11_talks_77 : decode cX11_talks 77 = .ok (.if_icmp .ge 4, 3) := by decide +kernel
theorem dX11_talks_80 : decode cX11_talks 80 = .ok (.return_, 1) := by decide +kernel
theorem dX11_talks_81 : decode cX11_talks 81 = .ok (.aload_n 0, 1) := by decide +kernel
theorem dX11_talks_82 : decode cX11_talks 82 = .ok (.iconst 1, 1) := by decide +kernel
theorem dX11_talks_83 : decode cX11_talks 83 = .ok (.invokevirtual 374, 3) := by decide +kernel
theorem dX11_talks_86 : decode cX11_talks 86 = .ok (.aload_n 0, 1) := by decide +kernel
theorem dX11_talks_87 : decode cX11_talks 87 = .ok (.iconst (-1), 1) := by decide +kernel
theorem dX11_talks_88 : decode cX11_talks 88 = .ok (.invokevirtual 374, 3) := by decide +kernel
theorem dX11_talks_91 : decode cX11_talks 91 = .ok (.isub, 1) := by decide +kernel
theorem dX11_talks_92 : decode cX11_talks 92 = .ok (.istore_n 2, 1) := by decide +kernel
theorem dX11_talks_93 : decode cX11_talks 93 = .ok (.iload_n 2, 1) := by decide +kernel
theorem dX11_talks_94 : decode cX11_talks 94 = .ok (.ifCond .le 7, 3) := by decide +kernel
theorem dX11_talks_97 : decode cX11_talks 97 = .ok (.iconst 1, 1) := by decide +kernel
theorem dX11_talks_98 : decode cX11_talks 98 = .ok (.goto 12, 3) := by decide +kernel
theorem dX11_talks_101 : decode cX11_talks 101 = .ok (.iload_n 2, 1) := by decide +kernel
theorem dX11_talks_102 : decode cX11_talks 102 = .ok (.ifCond .ge 7, 3) := by decide +kernel
theorem dX11_talks_105 : decode cX11_talks 105 = .ok (.iconst (-1), 1) := by decide +kernel
theorem dX11_talks_106 : decode cX11_talks 106 = .ok (.goto 4, 3) := by decide +kernel
theorem dX11_talks_109 : decode cX11_talks 109 = .ok (.iconst 0, 1) := by decide +kernel
theorem dX11_talks_110 : decode cX11_talks 110 = .ok (.istore_n 3, 1) := by decide +kernel
theorem dX11_talks_111 : decode cX11_talks 111 = .ok (.iconst 0, 1) := by decide +kernel
theorem dX11_talks_112 : decode cX11_talks 112 = .ok (.istore 4, 2) := by decide +kernel
theorem dX11_talks_114 : decode cX11_talks 114 = .ok (.iload 4, 2) := by decide +kernel
theorem dX11_talks_116 : decode cX11_talks 116 = .ok (.aload_n 0, 1) := by decide +kernel
theorem dX11_talks_117 : decode cX11_talks 117 = .ok (.getfield 35, 3) := by decide +kernel
theorem dX11_talks_120 : decode cX11_talks 120 = .ok (.iconst 0, 1) := by decide +kernel
theorem dX11_talks_121 : decode cX11_talks 121 = .ok (.iaload, 1) := by decide +kernel
theorem dX11_talks_122 : decode cX11_talks 122 = .ok (.if_icmp .ge 43, 3) := by decide +kernel
theorem dX11_talks_125 : decode cX11_talks 125 = .ok (.aload_n 0, 1) := by decide +kernel
theorem dX11_talks_126 : decode cX11_talks 126 = .ok (.iload 4, 2) := by decide +kernel
theorem dX11_talks_128 : decode cX11_talks 128 = .ok (.invokevirtual 361, 3) := by decide +kernel
theorem dX11_talks_131 : decode cX11_talks 131 = .ok (.ifCond .eq 28, 3) := by decide +kernel
theorem dX11_talks_134 : decode cX11_talks 134 = .ok (.aload_n 0, 1) := by decide +kernel
theorem dX11_talks_135 : decode cX11_talks 135 = .ok (.getfield 35, 3) := by decide +kernel
theorem dX11_talks_138 : decode cX11_talks 138 = .ok (.bipush 42, 2) := by decide +kernel
theorem dX11_talks_140 : decode cX11_talks 140 = .ok (.iload 4, 2) := by decide +kernel
theorem dX11_talks_142 : decode cX11_talks 142 = .ok (.iadd, 1) := by decide +kernel
theorem dX11_talks_143 : decode cX11_talks 143 = .ok (.aload_n 0, 1) := by decide +kernel
theorem dX11_talks_144 : decode cX11_talks 144 = .ok (.getfield 35, 3) := by decide +kernel
theorem dX11_talks_147 : decode cX11_talks 147 = .ok (.bipush 42, 2) := by decide +kernel
theorem dX11_talks_149 : decode cX11_talks 149 = .ok (.iload 4, 2) := by decide +kernel
theorem dX11_talks_151 : decode cX11_talks 151 = .ok (.iadd, 1) := by decide +kernel
theorem dX11_talks_152 : decode cX11_talks 152 = .ok (.iaload, 1) := by decide +kernel
theorem dX11_talks_153 : decode cX11_talks 153 = .ok (.iload_n 3, 1) := by decide +kernel
theorem dX11_talks_154 : decode cX11_talks 154 = .ok (.iadd, 1) := by decide +kernel
theorem dX11_talks_155 : decode cX11_talks 155 = .ok (.invokestatic 366, 3) := by decide +kernel
theorem dX11_talks_158 : decode cX11_talks 158 = .ok (.iastore, 1) := by decide +kernel
theorem dX11_talks_159 : decode cX11_talks 159 = .ok (.iinc 4 1, 3) := by decide +kernel
theorem dX11_talks_162 : decode cX11_talks 162 = .ok (.goto (-48), 3) := by decide +kernel
theorem dX11_talks_165 : decode cX11_talks 165 = .ok (.return_, 1) := by decide +kernel
set_option maxRecDepth 20000 in
theorem ggX11_talksFor_X11_talks : GoodIn wsX11_talksFor wsX11_talks := goodIn_r _ [5, 6, 7, 8, 9, 4, 10, 11, 12, 13, 14, 15, 16, 17, 18, 19, 20, 21, 22, 23, 24, 25, 26, 27, 28, 29, 30, 31, 32, 33, 34, 35, 36, 37, 38, 39, 40, 41, 42, 43, 44, 45, 46, 47, 48, 49, 50, 51, 52, 53, 54, 55, 56, 57, 58, 59, 60, 61, 62, 63, 64, 65, 66, 67, 68, 69, 70, 71, 72, 73, 74, 75, 76, 77, 78, 79, 80] (by decide +kernel) (by decide +kernel)
set_option maxRecDepth 20000 in
theorem gX11_talksFor_X11_talks : GoodIn wsX11_talksFor (wsV RX11 377 RX11 yX11_talks wsX11_talks) := goodIn_app (goodIn_of _ (by decide +kernel)) ggX11_talksFor_X11_talks
theorem dX11_talksFor_0 : decode cX11_talksFor 0 = .ok (.iconst 0, 1) := by decide +kernel
theorem dX11_talksFor_1 : decode cX11_talksFor 1 = .ok (.istore_n 2, 1) := by decide +kernel
theorem dX11_talksFor_2 : decode cX11_talksFor 2 = .ok (.iload_n 2, 1) := by decide +kernel
theorem dX11_talksFor_3 : decode cX11_talksFor 3 = .ok (.iload_n 1, 1) := by decide +kernel
theorem dX11_talksFor_4 : decode cX11_talksFor 4 = .ok (.if_icmp .ge 14, 3) := by decide +kernel
theorem dX11_talksFor_7 : decode cX11_talksFor 7 = .ok (.aload_n 0, 1) := by decide +kernel
theorem dX11_talksFor_8 : decode cX11_talksFor 8 = .ok (.iconst 1, 1) := by decide +kernel
theorem dX11_talksFor_9 : decode cX11_talksFor 9 = .ok (.invokevirtual 377, 3) := by decide +kernel
theorem dX11_talksFor_12 : decode cX11_talksFor 12 = .ok (.iinc 2 1, 3) := by decide +kernel
theorem dX11_talksFor_15 : decode cX11_talksFor 15 = .ok (.goto (-13), 3) := by decide +kernel
theorem dX11_talksFor_18 : decode cX11_talksFor 18 = .ok (.return_, 1) := by decide +kernel
theorem dX11_judge_0 : decode cX11_judge 0 = .ok (.iload_n 1, 1) := by decide +kernel
theorem dX11_judge_1 : decode cX11_judge 1 = .ok (.iload_n 2, 1) := by decide +kernel
theorem dX11_judge_2 : decode cX11_judge 2 = .ok (.iadd, 1) := by decide +kernel
theorem dX11_judge_3 : decode cX11_judge 3 = .ok (.istore_n 3, 1) := by decide +kernel
theorem dX11_judge_4 : decode cX11_judge 4 = .ok (.iload_n 3, 1) := by decide +kernel
theorem dX11_judge_5 : decode cX11_judge 5 = .ok (.ifCond .ne 5, 3) := by decide +kernel
theorem dX11_judge_8 : decode cX11_judge 8 = .ok (.iconst 0, 1) := by decide +kernel
theorem dX11_judge_9 : decode cX11_judge 9 = .ok (.ireturn, 1) := by decide +kernel
theorem dX11_judge_10 : decode cX11_judge 10 = .ok (.iload_n 0, 1) := by decide +kernel
theorem dX11_judge_11 : decode cX11_judge 11 = .ok (.ifCond .ne 16, 3) := by decide +kernel
theorem dX11_judge_14 : decode cX11_judge 14 = .ok (.iconst 2, 1) := by decide +kernel
theorem dX11_judge_15 : decode cX11_judge 15 = .ok (.iload_n 1, 1) := by decide +kernel
theorem dX11_judge_16 : decode cX11_judge 16 = .ok (.imul, 1) := by decide +kernel
theorem dX11_judge_17 : decode cX11_judge 17 = .ok (.iload_n 3, 1) := by decide +kernel
theorem dX11_judge_18 : decode cX11_judge 18 = .ok (.if_icmp .le 7, 3) := by decide +kernel
theorem dX11_judge_21 : decode cX11_judge 21 = .ok (.iconst 1, 1) := by decide +kernel
theorem dX11_judge_22 : decode cX11_judge 22 = .ok (.goto 4, 3) := by decide +kernel
theorem dX11_judge_25 : decode cX11_judge 25 = .ok (.iconst (-1), 1) := by decide +kernel
theorem dX11_judge_26 : decode cX11_judge 26 = .ok (.ireturn, 1) := by decide +kernel
theorem dX11_judge_27 : decode cX11_judge 27 = .ok (.iload_n 0, 1) := by decide +kernel
theorem dX11_judge_28 : decode cX11_judge 28 = .ok (.iconst 1, 1) := by decide +kernel
theorem dX11_judge_29 : decode cX11_judge 29 = .ok (.if_icmp .ne 23, 3) := by decide +kernel
theorem dX11_judge_32 : decode cX11_judge 32 = .ok (.iload_n 1, 1) := by decide +kernel
theorem dX11_judge_33 : decode cX11_judge 33 = .ok (.iload_n 3, 1) := by decide +kernel
theorem dX11_judge_34 : decode cX11_judge 34 = .ok (.if_icmp .ne 7, 3) := by decide +kernel
theorem dX11_judge_37 : decode cX11_judge 37 = .ok (.iconst 1, 1) := by decide +kernel
theorem dX11_judge_38 : decode cX11_judge 38 = .ok (.goto 13, 3) := by decide +kernel
theorem dX11_judge_41 : decode cX11_judge 41 = .ok (.iload_n 2, 1) := by decide +kernel
theorem dX11_judge_42 : decode cX11_judge 42 = .ok (.iload_n 3, 1) := by decide +kernel
theorem dX11_judge_43 : decode cX11_judge 43 = .ok (.if_icmp .ne 7, 3) := by decide +kernel
theorem dX11_judge_46 : decode cX11_judge 46 = .ok (.iconst (-1), 1) := by decide +kernel
theorem dX11_judge_47 : decode cX11_judge 47 = .ok (.goto 4, 3) := by decide +kernel
theorem dX11_judge_50 : decode cX11_judge 50 = .ok (.iconst 0, 1) := by decide +kernel
theorem dX11_judge_51 : decode cX11_judge 51 = .ok (.ireturn, 1) := by decide +kernel
theorem dX11_judge_52 : decode cX11_judge 52 = .ok (.iconst 3, 1) := by decide +kernel
theorem dX11_judge_53 : decode cX11_judge 53 = .ok (.iload_n 1, 1) := by decide +kernel
theorem dX11_judge_54 : decode cX11_judge 54 = .ok (.imul, 1) := by decide +kernel
theorem dX11_judge_55 : decode cX11_judge 55 = .ok (.iconst 2, 1) := by decide +kernel
theorem dX11_judge_56 : decode cX11_judge 56 = .ok (.iload_n 3, 1) := by decide +kernel
theorem dX11_judge_57 : decode cX11_judge 57 = .ok (.imul, 1) := by decide +kernel
theorem dX11_judge_58 : decode cX11_judge 58 = .ok (.if_icmp .lt 7, 3) := by decide +kernel
theorem dX11_judge_61 : decode cX11_judge 61 = .ok (.iconst 1, 1) := by decide +kernel
theorem dX11_judge_62 : decode cX11_judge 62 = .ok (.goto 17, 3) := by decide +kernel
theorem dX11_judge_65 : decode cX11_judge 65 = .ok (.iconst 3, 1) := by decide +kernel
theorem dX11_judge_66 : decode cX11_judge 66 = .ok (.iload_n 2, 1) := by decide +kernel
theorem dX11_judge_67 : decode cX11_judge 67 = .ok (.imul, 1) := by decide +kernel
theorem dX11_judge_68 : decode cX11_judge 68 = .ok (.iconst 2, 1) := by decide +kernel
theorem dX11_judge_69 : decode cX11_judge 69 = .ok (.iload_n 3, 1) := by decide +kernel
theorem dX11_judge_70 : decode cX11_judge 70 = .ok (.imul, 1) := by decide +kernel
theorem dX11_judge_71 : decode cX11_judge 71 = .ok (.if_icmp .lt 7, 3) := by decide +kernel
theorem dX11_judge_74 : decode cX11_judge 74 = .ok (.iconst (-1), 1) := by decide +kernel
theorem dX11_judge_75 : decode cX11_judge 75 = .ok (.goto 4, 3) := by decide +kernel
theorem dX11_judge_78 : decode cX11_judge 78 = .ok (.iconst 0, 1) := by decide +kernel
theorem dX11_judge_79 : decode cX11_judge 79 = .ok (.ireturn, 1) := by decide +kernel
set_option maxRecDepth 20000 in
theorem ggX11_judged_X11_votesFor : GoodIn wsX11_judged wsX11_votesFor := goodIn_r _ [6, 1, 7, 8, 9, 5, 10, 11, 12, 13, 17, 18, 19, 20, 21, 22, 23, 24, 25, 26, 27, 28, 29, 30, 31, 32, 33, 34, 35, 36, 37, 38, 39, 40, 41, 42, 43, 44, 45, 46, 47, 48, 49, 50, 51, 52, 53, 54, 55, 56, 57, 58, 59, 60, 61, 62] (by decide +kernel) (by decide +kernel)
set_option maxRecDepth 20000 in
theorem gX11_judged_X11_votesFor : GoodIn wsX11_judged (wsV RX11 374 RX11 yX11_votesFor wsX11_votesFor) := goodIn_app (goodIn_of _ (by decide +kernel)) ggX11_judged_X11_votesFor
set_option maxRecDepth 20000 in
theorem ggX11_judged_X11_judge : GoodIn wsX11_judged wsX11_judge := goodIn_r _ [16] (by decide +kernel) (by decide +kernel)
set_option maxRecDepth 20000 in
theorem gX11_judged_X11_judge : GoodIn wsX11_judged (va_wsS RX11 380 yX11_judge wsX11_judge) := goodIn_app (goodIn_of _ (by decide +kernel)) ggX11_judged_X11_judge
theorem dX11_judged_0 : decode cX11_judged 0 = .ok (.aload_n 0, 1) := by decide +kernel
theorem dX11_judged_1 : decode cX11_judged 1 = .ok (.getfield 35, 3) := by decide +kernel
theorem dX11_judged_4 : decode cX11_judged 4 = .ok (.iconst 5, 1) := by decide +kernel
theorem dX11_judged_5 : decode cX11_judged 5 = .ok (.iaload, 1) := by decide +kernel
theorem dX11_judged_6 : decode cX11_judged 6 = .ok (.aload_n 0, 1) := by decide +kernel
theorem dX11_judged_7 : decode cX11_judged 7 = .ok (.iconst 1, 1) := by decide +kernel
theorem dX11_judged_8 : decode cX11_judged 8 = .ok (.invokevirtual 374, 3) := by decide +kernel
theorem dX11_judged_11 : decode cX11_judged 11 = .ok (.aload_n 0, 1) := by decide +kernel
theorem dX11_judged_12 : decode cX11_judged 12 = .ok (.iconst (-1), 1) := by decide +kernel
theorem dX11_judged_13 : decode cX11_judged 13 = .ok (.invokevirtual 374, 3) := by decide +kernel
theorem dX11_judged_16 : decode cX11_judged 16 = .ok (.invokestatic 380, 3) := by decide +kernel
theorem dX11_judged_19 : decode cX11_judged 19 = .ok (.ireturn, 1) := by decide +kernel
set_option maxRecDepth 20000 in
theorem ggX11_talk_X11_isIn : GoodIn wsX11_talk wsX11_isIn := goodIn_r _ [8] (by decide +kernel) (by decide +kernel)
set_option maxRecDepth 20000 in
theorem gX11_talk_X11_isIn : GoodIn wsX11_talk (va_wsS RX11 106 yX11_isIn wsX11_isIn) := goodIn_app (goodIn_of _ (by decide +kernel)) ggX11_talk_X11_isIn
set_option maxRecDepth 20000 in
theorem ggX11_talk_X11_refuse : GoodIn wsX11_talk wsX11_refuse := goodIn_r _ [12, 2, 56, 57, 58, 59, 60, 61, 62, 63, 64, 65, 66, 67, 68, 69, 70, 71, 72, 73, 74, 75, 76, 77, 78, 79, 80, 81, 82, 83, 84, 85, 86, 87, 88, 89, 90, 91, 92, 93, 94, 95, 96, 97, 98, 99, 100, 101] (by decide +kernel) (by decide +kernel)
set_option maxRecDepth 20000 in
theorem gX11_talk_X11_refuse : GoodIn wsX11_talk (wsV RX11 340 RX11 yX11_refuse wsX11_refuse) := goodIn_app (goodIn_of _ (by decide +kernel)) ggX11_talk_X11_refuse
set_option maxRecDepth 20000 in
theorem ggX11_talk_X11_talksFor : GoodIn wsX11_talk wsX11_talksFor := goodIn_r _ [16, 17, 18, 19, 7, 20, 4, 21, 22, 23, 24, 25, 26, 27, 28, 29, 30, 31, 32, 33, 34, 35, 36, 37, 38, 39, 40, 41, 42, 43, 44, 45, 46, 47, 48, 56, 57, 58, 59, 60, 61, 62, 63, 64, 65, 66, 67, 68, 69, 70, 71, 72, 73, 74, 75, 76, 77, 78, 79, 80, 81, 82, 83, 84, 85, 86, 87, 88, 89, 90, 91, 92, 93, 94, 95, 96, 97, 98, 99, 100, 101] (by decide +kernel) (by decide +kernel)
set_option maxRecDepth 20000 in
theorem gX11_talk_X11_talksFor : GoodIn wsX11_talk (wsV RX11 386 RX11 yX11_talksFor wsX11_talksFor) := goodIn_app (goodIn_of _ (by decide +kernel)) ggX11_talk_X11_talksFor
set_option maxRecDepth 20000 in
theorem ggX11_talk_X11_judged : GoodIn wsX11_talk wsX11_judged := goodIn_r _ [52, 4, 45, 46, 47, 7, 48, 21, 22, 23, 24, 25, 26, 27, 53, 54, 55, 56, 57, 58, 59, 60, 61, 62, 63, 64, 65, 66, 67, 68, 69, 70, 71, 72, 73, 74, 75, 76, 77, 78, 79, 80, 81, 82, 83, 84, 85, 86, 87, 88, 89, 90, 91, 92, 93, 94, 95, 96, 97, 98, 99, 100, 101] (by decide +kernel) (by decide +kernel)
set_option maxRecDepth 20000 in
theorem gX11_talk_X11_judged : GoodIn wsX11_talk (wsV RX11 389 RX11 yX11_judged wsX11_judged) := goodIn_app (goodIn_of _ (by decide +kernel)) ggX11_talk_X11_judged
theorem dX11_talk_0 : decode cX11_talk 0 = .ok (.aload_n 0, 1) := by decide +kernel
theorem dX11_talk_1 : decode cX11_talk 1 = .ok (.iconst 0, 1) := by decide +kernel
theorem dX11_talk_2 : decode cX11_talk 2 = .ok (.putfield 71, 3) := by decide +kernel
theorem dX11_talk_5 : decode cX11_talk 5 = .ok (.aload_n 0, 1) := by decide +kernel
theorem dX11_talk_6 : decode cX11_talk 6 = .ok (.iconst 0, 1) := by decide +kernel
theorem dX11_talk_7 : decode cX11_talk 7 = .ok (.putfield 74, 3) := by decide +kernel
theorem dX11_talk_10 : decode cX11_talk 10 = .ok (.iload_n 1, 1) := by decide +kernel
theorem dX11_talk_11 : decode cX11_talk 11 = .ok (.i2l, 1) := by decide +kernel
theorem dX11_talk_12 : decode cX11_talk 12 = .ok (.lconst 1, 1) := by decide +kernel
theorem dX11_talk_13 : decode cX11_talk 13 = .ok (.ldc2_w 384, 3) := by decide +kernel
theorem dX11_talk_16 : decode cX11_talk 16 = .ok (.invokestatic 106, 3) := by decide +kernel
theorem dX11_talk_19 : decode cX11_talk 19 = .ok (.ifCond .ne 9, 3) := by decide +kernel
theorem dX11_talk_22 : decode cX11_talk 22 = .ok (.aload_n 0, 1) := by decide +kernel
theorem dX11_talk_23 : decode cX11_talk 23 = .ok (.iconst 5, 1) := by decide +kernel
theorem dX11_talk_24 : decode cX11_talk 24 = .ok (.invokevirtual 340, 3) := by decide +kernel
theorem dX11_talk_27 : decode cX11_talk 27 = .ok (.ireturn, 1) := by decide +kernel
theorem dX11_talk_28 : decode cX11_talk 28 = .ok (.aload_n 0, 1) := by decide +kernel
theorem dX11_talk_29 : decode cX11_talk 29 = .ok (.getfield 35, 3) := by decide +kernel
theorem dX11_talk_32 : decode cX11_talk 32 = .ok (.bipush 7, 2) := by decide +kernel
theorem dX11_talk_34 : decode cX11_talk 34 = .ok (.iaload, 1) := by decide +kernel
theorem dX11_talk_35 : decode cX11_talk 35 = .ok (.iload_n 1, 1) := by decide +kernel
theorem dX11_talk_36 : decode cX11_talk 36 = .ok (.iadd, 1) := by decide +kernel
theorem dX11_talk_37 : decode cX11_talk 37 = .ok (.sipush 9999, 3) := by decide +kernel
theorem dX11_talk_40 : decode cX11_talk 40 = .ok (.if_icmp .le 10, 3) := by decide +kernel
theorem dX11_talk_43 : decode cX11_talk 43 = .ok (.aload_n 0, 1) := by decide +kernel
theorem dX11_talk_44 : decode cX11_talk 44 = .ok (.bipush 7, 2) := by decide +kernel
theorem dX11_talk_46 : decode cX11_talk 46 = .ok (.invokevirtual 340, 3) := by decide +kernel
theorem dX11_talk_49 : decode cX11_talk 49 = .ok (.ireturn, 1) := by decide +kernel
theorem dX11_talk_50 : decode cX11_talk 50 = .ok (.aload_n 0, 1) := by decide +kernel
theorem dX11_talk_51 : decode cX11_talk 51 = .ok (.iload_n 1, 1) := by decide +kernel
theorem dX11_talk_52 : decode cX11_talk 52 = .ok (.invokevirtual 386, 3) := by decide +kernel
theorem dX11_talk_55 : decode cX11_talk 55 = .ok (.aload_n 0, 1) := by decide +kernel
theorem dX11_talk_56 : decode cX11_talk 56 = .ok (.invokevirtual 389, 3) := by decide +kernel
theorem dX11_talk_59 : decode cX11_talk 59 = .ok (.ireturn, 1) := by decide +kernel
set_option maxRecDepth 20000 in
theorem ggX11_endsDay_X11_judged : GoodIn wsX11_endsDay wsX11_judged := goodIn_r _ [6, 1, 7, 8, 9, 5, 10, 11, 12, 13, 14, 15, 16, 17, 18, 19, 20, 29, 30, 31, 32, 33, 34, 35, 36, 37, 38, 39, 40, 41, 42, 43, 44, 45, 46, 47, 48, 49, 50, 51, 52, 53, 54, 55, 56, 57, 58, 59, 60, 61, 62, 63, 64, 65, 66, 67, 68, 69, 70, 71, 72, 73, 74] (by decide +kernel) (by decide +kernel)
set_option maxRecDepth 20000 in
theorem gX11_endsDay_X11_judged : GoodIn wsX11_endsDay (wsV RX11 389 RX11 yX11_judged wsX11_judged) := goodIn_app (goodIn_of _ (by decide +kernel)) ggX11_endsDay_X11_judged
set_option maxRecDepth 20000 in
theorem ggX11_endsDay_X11_growsOn : GoodIn wsX11_endsDay wsX11_growsOn := goodIn_r _ [24, 1, 29, 30, 31, 32, 33, 34, 35, 36, 37, 38, 39, 40, 41, 42, 43, 44, 45, 46, 47, 48, 49, 50, 51, 52, 53, 54, 55, 56, 57, 58, 59, 60, 61, 62, 63, 64, 65, 66, 67, 68, 69, 70, 71, 72, 73, 74] (by decide +kernel) (by decide +kernel)
set_option maxRecDepth 20000 in
theorem gX11_endsDay_X11_growsOn : GoodIn wsX11_endsDay (wsV RX11 355 RX11 yX11_growsOn wsX11_growsOn) := goodIn_app (goodIn_of _ (by decide +kernel)) ggX11_endsDay_X11_growsOn
set_option maxRecDepth 20000 in
theorem ggX11_endsDay_X11_behindOf : GoodIn wsX11_endsDay wsX11_behindOf := goodIn_r _ [28, 1, 29, 30, 31, 32, 33, 34, 35, 36, 37, 38, 39, 40, 41, 42, 43, 44, 45, 46, 47, 48, 49, 50, 51, 52, 53, 54, 55, 56, 57, 58, 59, 60, 61, 62, 63, 64, 65, 66, 67, 68, 69, 70, 71, 72, 73, 74] (by decide +kernel) (by decide +kernel)
set_option maxRecDepth 20000 in
theorem gX11_endsDay_X11_behindOf : GoodIn wsX11_endsDay (wsV RX11 349 RX11 yX11_behindOf wsX11_behindOf) := goodIn_app (goodIn_of _ (by decide +kernel)) ggX11_endsDay_X11_behindOf
theorem dX11_endsDay_0 : decode cX11_endsDay 0 = .ok (.aload_n 0, 1) := by decide +kernel
theorem dX11_endsDay_1 : decode cX11_endsDay 1 = .ok (.invokevirtual 389, 3) := by decide +kernel
theorem dX11_endsDay_4 : decode cX11_endsDay 4 = .ok (.istore_n 1, 1) := by decide +kernel
theorem dX11_endsDay_5 : decode cX11_endsDay 5 = .ok (.aload_n 0, 1) := by decide +kernel
theorem dX11_endsDay_6 : decode cX11_endsDay 6 = .ok (.getfield 35, 3) := by decide +kernel
theorem dX11_endsDay_9 : decode cX11_endsDay 9 = .ok (.bipush 8, 2) := by decide +kernel
theorem dX11_endsDay_11 : decode cX11_endsDay 11 = .ok (.iaload, 1) := by decide +kernel
theorem dX11_endsDay_12 : decode cX11_endsDay 12 = .ok (.ifCond .lt 65, 3) := by decide +kernel
theorem dX11_endsDay_15 : decode cX11_endsDay 15 = .ok (.iconst 0, 1) := by decide +kernel
theorem dX11_endsDay_16 : decode cX11_endsDay 16 = .ok (.istore_n 2, 1) := by decide +kernel
theorem dX11_endsDay_17 : decode cX11_endsDay 17 = .ok (.iload_n 2, 1) := by decide +kernel
theorem dX11_endsDay_18 : decode cX11_endsDay 18 = .ok (.aload_n 0, 1) := by decide +kernel
theorem dX11_endsDay_19 : decode cX11_endsDay 19 = .ok (.getfield 35, 3) := by decide +kernel
theorem dX11_endsDay_22 : decode cX11_endsDay 22 = .ok (.iconst 3, 1) := by decide +kernel
theorem dX11_endsDay_23 : decode cX11_endsDay 23 = .ok (.iaload, 1) := by decide +kernel
theorem dX11_endsDay_24 : decode cX11_endsDay 24 = .ok (.if_icmp .ge 34, 3) := by decide +kernel
theorem dX11_endsDay_27 : decode cX11_endsDay 27 = .ok (.aload_n 0, 1) := by decide +kernel
theorem dX11_endsDay_28 : decode cX11_endsDay 28 = .ok (.getfield 35, 3) := by decide +kernel
theorem dX11_endsDay_31 : decode cX11_endsDay 31 = .ok (.sipush 194, 3) := by decide +kernel
theorem dX11_endsDay_34 : decode cX11_endsDay 34 = .ok (.iload_n 2, 1) := by decide +kernel
theorem dX11_endsDay_35 : decode cX11_endsDay 35 = .ok (.iadd, 1) := by decide +kernel
theorem dX11_endsDay_36 : decode cX11_endsDay 36 = .ok (.dup2, 1) := by decide +kernel
theorem dX11_endsDay_37 : decode cX11_endsDay 37 = .ok (.iaload, 1) := by decide +kernel
theorem dX11_endsDay_38 : decode cX11_endsDay 38 = .ok (.aload_n 0, 1) := by decide +kernel
theorem dX11_endsDay_39 : decode cX11_endsDay 39 = .ok (.iload_n 2, 1) := by decide +kernel
theorem dX11_endsDay_40 : decode cX11_endsDay 40 = .ok (.aload_n 0, 1) := by decide +kernel
theorem dX11_endsDay_41 : decode cX11_endsDay 41 = .ok (.getfield 35, 3) := by decide +kernel
theorem dX11_endsDay_44 : decode cX11_endsDay 44 = .ok (.bipush 8, 2) := by decide +kernel
theorem dX11_endsDay_46 : decode cX11_endsDay 46 = .ok (.iaload, 1) := by decide +kernel
theorem dX11_endsDay_47 : decode cX11_endsDay 47 = .ok (.invokevirtual 355, 3) := by decide +kernel
theorem dX11_endsDay_50 : decode cX11_endsDay 50 = .ok (.iadd, 1) := by decide +kernel
theorem dX11_endsDay_51 : decode cX11_endsDay 51 = .ok (.iastore, 1) := by decide +kernel
theorem dX11_endsDay_52 : decode cX11_endsDay 52 = .ok (.iinc 2 1, 3) := by decide +kernel
theorem dX11_endsDay_55 : decode cX11_endsDay 55 = .ok (.goto (-38), 3) := by decide +kernel
theorem dX11_endsDay_58 : decode cX11_endsDay 58 = .ok (.aload_n 0, 1) := by decide +kernel
theorem dX11_endsDay_59 : decode cX11_endsDay 59 = .ok (.getfield 35, 3) := by decide +kernel
theorem dX11_endsDay_62 : decode cX11_endsDay 62 = .ok (.bipush 8, 2) := by decide +kernel
theorem dX11_endsDay_64 : decode cX11_endsDay 64 = .ok (.aload_n 0, 1) := by decide +kernel
theorem dX11_endsDay_65 : decode cX11_endsDay 65 = .ok (.aload_n 0, 1) := by decide +kernel
theorem dX11_endsDay_66 : decode cX11_endsDay 66 = .ok (.getfield 35, 3) := by decide +kernel
theorem dX11_endsDay_69 : decode cX11_endsDay 69 = .ok (.bipush 8, 2) := by decide +kernel
theorem dX11_endsDay_71 : decode cX11_endsDay 71 = .ok (.iaload, 1) := by decide +kernel
theorem dX11_endsDay_72 : decode cX11_endsDay 72 = .ok (.iload_n 1, 1) := by decide +kernel
theorem dX11_endsDay_73 : decode cX11_endsDay 73 = .ok (.invokevirtual 349, 3) := by decide +kernel
theorem dX11_endsDay_76 : decode cX11_endsDay 76 = .ok (.iastore, 1) := by decide +kernel
theorem dX11_endsDay_77 : decode cX11_endsDay 77 = .ok (.aload_n 0, 1) := by decide +kernel
theorem dX11_endsDay_78 : decode cX11_endsDay 78 = .ok (.getfield 35, 3) := by decide +kernel
theorem dX11_endsDay_81 : decode cX11_endsDay 81 = .ok (.bipush 6, 2) := by decide +kernel
theorem dX11_endsDay_83 : decode cX11_endsDay 83 = .ok (.dup2, 1) := by decide +kernel
theorem dX11_endsDay_84 : decode cX11_endsDay 84 = .ok (.iaload, 1) := by decide +kernel
theorem dX11_endsDay_85 : decode cX11_endsDay 85 = .ok (.iconst 1, 1) := by decide +kernel
theorem dX11_endsDay_86 : decode cX11_endsDay 86 = .ok (.iadd, 1) := by decide +kernel
theorem dX11_endsDay_87 : decode cX11_endsDay 87 = .ok (.iastore, 1) := by decide +kernel
theorem dX11_endsDay_88 : decode cX11_endsDay 88 = .ok (.aload_n 0, 1) := by decide +kernel
theorem dX11_endsDay_89 : decode cX11_endsDay 89 = .ok (.getfield 35, 3) := by decide +kernel
theorem dX11_endsDay_92 : decode cX11_endsDay 92 = .ok (.bipush 7, 2) := by decide +kernel
theorem dX11_endsDay_94 : decode cX11_endsDay 94 = .ok (.iconst 0, 1) := by decide +kernel
theorem dX11_endsDay_95 : decode cX11_endsDay 95 = .ok (.iastore, 1) := by decide +kernel
theorem dX11_endsDay_96 : decode cX11_endsDay 96 = .ok (.aload_n 0, 1) := by decide +kernel
theorem dX11_endsDay_97 : decode cX11_endsDay 97 = .ok (.getfield 35, 3) := by decide +kernel
theorem dX11_endsDay_100 : decode cX11_endsDay 100 = .ok (.bipush 11, 2) := by decide +kernel
theorem dX11_endsDay_102 : decode cX11_endsDay 102 = .ok (.iconst 0, 1) := by decide +kernel
theorem dX11_endsDay_103 : decode cX11_endsDay 103 = .ok (.iastore, 1) := by decide +kernel
theorem dX11_endsDay_104 : decode cX11_endsDay 104 = .ok (.aload_n 0, 1) := by decide +kernel
theorem dX11_endsDay_105 : decode cX11_endsDay 105 = .ok (.getfield 35, 3) := by decide +kernel
theorem dX11_endsDay_108 : decode cX11_endsDay 108 = .ok (.bipush 10, 2) := by decide +kernel
theorem dX11_endsDay_110 : decode cX11_endsDay 110 = .ok (.iconst 1, 1) := by decide +kernel
theorem dX11_endsDay_111 : decode cX11_endsDay 111 = .ok (.aload_n 0, 1) := by decide +kernel
theorem dX11_endsDay_112 : decode cX11_endsDay 112 = .ok (.getfield 35, 3) := by decide +kernel
theorem dX11_endsDay_115 : decode cX11_endsDay 115 = .ok (.iconst 0, 1) := by decide +kernel
theorem dX11_endsDay_116 : decode cX11_endsDay 116 = .ok (.iaload, 1) := by decide +kernel
theorem dX11_endsDay_117 : decode cX11_endsDay 117 = .ok (.ishl, 1) := by decide +kernel
theorem dX11_endsDay_118 : decode cX11_endsDay 118 = .ok (.iconst 1, 1) := by decide +kernel
theorem dX11_endsDay_119 : decode cX11_endsDay 119 = .ok (.isub, 1) := by decide +kernel
theorem dX11_endsDay_120 : decode cX11_endsDay 120 = .ok (.iastore, 1) := by decide +kernel
theorem dX11_endsDay_121 : decode cX11_endsDay 121 = .ok (.iconst 0, 1) := by decide +kernel
theorem dX11_endsDay_122 : decode cX11_endsDay 122 = .ok (.istore_n 2, 1) := by decide +kernel
theorem dX11_endsDay_123 : decode cX11_endsDay 123 = .ok (.iload_n 2, 1) := by decide +kernel
theorem dX11_endsDay_124 : decode cX11_endsDay 124 = .ok (.aload_n 0, 1) := by decide +kernel
theorem dX11_endsDay_125 : decode cX11_endsDay 125 = .ok (.getfield 35, 3) := by decide +kernel
theorem dX11_endsDay_128 : decode cX11_endsDay 128 = .ok (.iconst 0, 1) := by decide +kernel
theorem dX11_endsDay_129 : decode cX11_endsDay 129 = .ok (.iaload, 1) := by decide +kernel
theorem dX11_endsDay_130 : decode cX11_endsDay 130 = .ok (.if_icmp .ge 27, 3) := by decide +kernel
theorem dX11_endsDay_133 : decode cX11_endsDay 133 = .ok (.aload_n 0, 1) := by decide +kernel
theorem dX11_endsDay_134 : decode cX11_endsDay 134 = .ok (.getfield 35, 3) := by decide +kernel
theorem dX11_endsDay_137 : decode cX11_endsDay 137 = .ok (.bipush 42, 2) := by decide +kernel
theorem dX11_endsDay_139 : decode cX11_endsDay 139 = .ok (.iload_n 2, 1) := by decide +kernel
theorem dX11_endsDay_140 : decode cX11_endsDay 140 = .ok (.iadd, 1) := by decide +kernel
theorem dX11_endsDay_141 : decode cX11_endsDay 141 = .ok (.aload_n 0, 1) := by decide +kernel
theorem dX11_endsDay_142 : decode cX11_endsDay 142 = .ok (.getfield 35, 3) := by decide +kernel
theorem dX11_endsDay_145 : decode cX11_endsDay 145 = .ok (.bipush 12, 2) := by decide +kernel
theorem dX11_endsDay_147 : decode cX11_endsDay 147 = .ok (.iload_n 2, 1) := by decide +kernel
theorem dX11_endsDay_148 : decode cX11_endsDay 148 = .ok (.iadd, 1) := by decide +kernel
theorem dX11_endsDay_149 : decode cX11_endsDay 149 = .ok (.iaload, 1) := by decide +kernel
theorem dX11_endsDay_150 : decode cX11_endsDay 150 = .ok (.iastore, 1) := by decide +kernel
theorem dX11_endsDay_151 : decode cX11_endsDay 151 = .ok (.iinc 2 1, 3) := by decide +kernel
theorem dX11_endsDay_154 : decode cX11_endsDay 154 = .ok (.goto (-31), 3) := by decide +kernel
theorem dX11_endsDay_157 : decode cX11_endsDay 157 = .ok (.iload_n 1, 1) := by decide +kernel
theorem dX11_endsDay_158 : decode cX11_endsDay 158 = .ok (.ireturn, 1) := by decide +kernel
set_option maxRecDepth 20000 in
theorem ggX11_endDay_X11_refuse : GoodIn wsX11_endDay wsX11_refuse := goodIn_r _ [8, 2, 39, 40, 41, 42, 43, 44, 45, 46, 47, 48, 49, 50, 51, 52, 53, 54, 55, 56, 57, 58, 59, 60, 61, 62, 63, 64, 65, 66, 67, 68, 69, 70, 71, 72, 73, 74, 75, 76, 77, 78, 79, 80, 81, 82, 83, 84] (by decide +kernel) (by decide +kernel)
set_option maxRecDepth 20000 in
theorem gX11_endDay_X11_refuse : GoodIn wsX11_endDay (wsV RX11 340 RX11 yX11_refuse wsX11_refuse) := goodIn_app (goodIn_of _ (by decide +kernel)) ggX11_endDay_X11_refuse
set_option maxRecDepth 20000 in
theorem ggX11_endDay_X11_endsDay : GoodIn wsX11_endDay wsX11_endsDay := goodIn_r _ [12, 3, 13, 14, 15, 7, 16, 17, 18, 19, 20, 21, 22, 23, 24, 25, 26, 27, 28, 29, 30, 31, 32, 33, 34, 35, 36, 37, 38, 39, 40, 41, 42, 43, 44, 45, 46, 47, 48, 49, 50, 51, 52, 53, 54, 55, 56, 57, 58, 59, 60, 61, 62, 63, 64, 65, 66, 67, 68, 69, 70, 71, 72, 73, 74, 75, 76, 77, 78, 79, 80, 81, 82, 83, 84] (by decide +kernel) (by decide +kernel)
set_option maxRecDepth 20000 in
theorem gX11_endDay_X11_endsDay : GoodIn wsX11_endDay (wsV RX11 392 RX11 yX11_endsDay wsX11_endsDay) := goodIn_app (goodIn_of _ (by decide +kernel)) ggX11_endDay_X11_endsDay
theorem dX11_endDay_0 : decode cX11_endDay 0 = .ok (.aload_n 0, 1) := by decide +kernel
theorem dX11_endDay_1 : decode cX11_endDay 1 = .ok (.iconst 0, 1) := by decide +kernel
theorem dX11_endDay_2 : decode cX11_endDay 2 = .ok (.putfield 71, 3) := by decide +kernel
theorem dX11_endDay_5 : decode cX11_endDay 5 = .ok (.aload_n 0, 1) := by decide +kernel
theorem dX11_endDay_6 : decode cX11_endDay 6 = .ok (.iconst 0, 1) := by decide +kernel
theorem dX11_endDay_7 : decode cX11_endDay 7 = .ok (.putfield 74, 3) := by decide +kernel
theorem dX11_endDay_10 : decode cX11_endDay 10 = .ok (.aload_n 0, 1) := by decide +kernel
theorem dX11_endDay_11 : decode cX11_endDay 11 = .ok (.getfield 35, 3) := by decide +kernel
theorem dX11_endDay_14 : decode cX11_endDay 14 = .ok (.bipush 6, 2) := by decide +kernel
theorem dX11_endDay_16 : decode cX11_endDay 16 = .ok (.iaload, 1) := by decide +kernel
theorem dX11_endDay_17 : decode cX11_endDay 17 = .ok (.sipush 9999, 3) := by decide +kernel
theorem dX11_endDay_20 : decode cX11_endDay 20 = .ok (.if_icmp .ne 12, 3) := by decide +kernel
theorem dX11_endDay_23 : decode cX11_endDay 23 = .ok (.aload_n 0, 1) := by decide +kernel
theorem dX11_endDay_24 : decode cX11_endDay 24 = .ok (.bipush 7, 2) := by decide +kernel
theorem dX11_endDay_26 : decode cX11_endDay 26 = .ok (.invokevirtual 340, 3) := by decide +kernel
theorem dX11_endDay_29 : decode cX11_endDay 29 = .ok (.goto 7, 3) := by decide +kernel
theorem dX11_endDay_32 : decode cX11_endDay 32 = .ok (.aload_n 0, 1) := by decide +kernel
theorem dX11_endDay_33 : decode cX11_endDay 33 = .ok (.invokevirtual 392, 3) := by decide +kernel
theorem dX11_endDay_36 : decode cX11_endDay 36 = .ok (.ireturn, 1) := by decide +kernel
set_option maxRecDepth 20000 in
theorem ggX11_strikesOne_X11_isSeated : GoodIn wsX11_strikesOne wsX11_isSeated := goodIn_r _ [6, 1, 7, 8, 5, 9, 10, 11, 12, 13, 14, 15, 16, 17, 18, 19, 20, 21, 22, 23, 24, 25, 26, 27, 28, 29, 30, 31, 32, 33, 34, 35, 36, 37, 38, 39, 40, 41, 42, 43, 44, 45, 46, 47, 48, 49, 50, 51, 52, 53, 54, 55] (by decide +kernel) (by decide +kernel)
set_option maxRecDepth 20000 in
theorem gX11_strikesOne_X11_isSeated : GoodIn wsX11_strikesOne (wsV RX11 361 RX11 yX11_isSeated wsX11_isSeated) := goodIn_app (goodIn_of _ (by decide +kernel)) ggX11_strikesOne_X11_isSeated
theorem dX11_strikesOne_0 : decode cX11_strikesOne 0 = .ok (.aload_n 0, 1) := by decide +kernel
theorem dX11_strikesOne_1 : decode cX11_strikesOne 1 = .ok (.iload_n 1, 1) := by decide +kernel
theorem dX11_strikesOne_2 : decode cX11_strikesOne 2 = .ok (.invokevirtual 361, 3) := by decide +kernel
theorem dX11_strikesOne_5 : decode cX11_strikesOne 5 = .ok (.ifCond .ne 5, 3) := by decide +kernel
theorem dX11_strikesOne_8 : decode cX11_strikesOne 8 = .ok (.iconst 0, 1) := by decide +kernel
theorem dX11_strikesOne_9 : decode cX11_strikesOne 9 = .ok (.ireturn, 1) := by decide +kernel
theorem dX11_strikesOne_10 : decode cX11_strikesOne 10 = .ok (.aload_n 0, 1) := by decide +kernel
theorem dX11_strikesOne_11 : decode cX11_strikesOne 11 = .ok (.getfield 35, 3) := by decide +kernel
theorem dX11_strikesOne_14 : decode cX11_strikesOne 14 = .ok (.bipush 10, 2) := by decide +kernel
theorem dX11_strikesOne_16 : decode cX11_strikesOne 16 = .ok (.dup2, 1) := by decide +kernel
theorem dX11_strikesOne_17 : decode cX11_strikesOne 17 = .ok (.iaload, 1) := by decide +kernel
theorem dX11_strikesOne_18 : decode cX11_strikesOne 18 = .ok (.iconst 1, 1) := by decide +kernel
theorem dX11_strikesOne_19 : decode cX11_strikesOne 19 = .ok (.iload_n 1, 1) := by decide +kernel
theorem dX11_strikesOne_20 : decode cX11_strikesOne 20 = .ok (.ishl, 1) := by decide +kernel
theorem dX11_strikesOne_21 : decode cX11_strikesOne 21 = .ok (.iconst (-1), 1) := by decide +kernel
theorem dX11_strikesOne_22 : decode cX11_strikesOne 22 = .ok (.ixor, 1) := by decide +kernel
theorem dX11_strikesOne_23 : decode cX11_strikesOne 23 = .ok (.iand, 1) := by decide +kernel
theorem dX11_strikesOne_24 : decode cX11_strikesOne 24 = .ok (.iastore, 1) := by decide +kernel
theorem dX11_strikesOne_25 : decode cX11_strikesOne 25 = .ok (.iconst 1, 1) := by decide +kernel
theorem dX11_strikesOne_26 : decode cX11_strikesOne 26 = .ok (.ireturn, 1) := by decide +kernel
set_option maxRecDepth 20000 in
theorem ggX11_seatsOne_X11_isSeated : GoodIn wsX11_seatsOne wsX11_isSeated := goodIn_r _ [6, 1, 7, 8, 5, 9, 10, 11, 12, 13, 14, 15, 16, 17, 18, 19, 20, 21, 22, 23, 24, 25, 26, 27, 28, 29, 30, 31, 32, 33, 34, 35, 36, 37, 38, 39, 40, 41, 42, 43, 44, 45, 46, 47, 48, 49, 50, 51, 52, 53, 54, 55] (by decide +kernel) (by decide +kernel)
set_option maxRecDepth 20000 in
theorem gX11_seatsOne_X11_isSeated : GoodIn wsX11_seatsOne (wsV RX11 361 RX11 yX11_isSeated wsX11_isSeated) := goodIn_app (goodIn_of _ (by decide +kernel)) ggX11_seatsOne_X11_isSeated
theorem dX11_seatsOne_0 : decode cX11_seatsOne 0 = .ok (.aload_n 0, 1) := by decide +kernel
theorem dX11_seatsOne_1 : decode cX11_seatsOne 1 = .ok (.iload_n 1, 1) := by decide +kernel
theorem dX11_seatsOne_2 : decode cX11_seatsOne 2 = .ok (.invokevirtual 361, 3) := by decide +kernel
theorem dX11_seatsOne_5 : decode cX11_seatsOne 5 = .ok (.ifCond .eq 5, 3) := by decide +kernel
theorem dX11_seatsOne_8 : decode cX11_seatsOne 8 = .ok (.iconst 0, 1) := by decide +kernel
theorem dX11_seatsOne_9 : decode cX11_seatsOne 9 = .ok (.ireturn, 1) := by decide +kernel
theorem dX11_seatsOne_10 : decode cX11_seatsOne 10 = .ok (.aload_n 0, 1) := by decide +kernel
theorem dX11_seatsOne_11 : decode cX11_seatsOne 11 = .ok (.getfield 35, 3) := by decide +kernel
theorem dX11_seatsOne_14 : decode cX11_seatsOne 14 = .ok (.bipush 10, 2) := by decide +kernel
theorem dX11_seatsOne_16 : decode cX11_seatsOne 16 = .ok (.dup2, 1) := by decide +kernel
theorem dX11_seatsOne_17 : decode cX11_seatsOne 17 = .ok (.iaload, 1) := by decide +kernel
theorem dX11_seatsOne_18 : decode cX11_seatsOne 18 = .ok (.iconst 1, 1) := by decide +kernel
theorem dX11_seatsOne_19 : decode cX11_seatsOne 19 = .ok (.iload_n 1, 1) := by decide +kernel
theorem dX11_seatsOne_20 : decode cX11_seatsOne 20 = .ok (.ishl, 1) := by decide +kernel
theorem dX11_seatsOne_21 : decode cX11_seatsOne 21 = .ok (.ior, 1) := by decide +kernel
theorem dX11_seatsOne_22 : decode cX11_seatsOne 22 = .ok (.iastore, 1) := by decide +kernel
theorem dX11_seatsOne_23 : decode cX11_seatsOne 23 = .ok (.iconst 1, 1) := by decide +kernel
theorem dX11_seatsOne_24 : decode cX11_seatsOne 24 = .ok (.ireturn, 1) := by decide +kernel
set_option maxRecDepth 20000 in
theorem ggX11_strike_X11_isJurorAt : GoodIn wsX11_strike wsX11_isJurorAt := goodIn_r _ [7, 8, 9, 10, 6, 11, 27, 28, 29, 30, 31, 32, 33, 34, 35, 36, 37, 38, 39, 40, 41, 42, 43, 44, 45, 46, 47, 48, 49, 50, 51, 52, 53, 54, 55, 56, 57, 58, 59, 60, 61, 62, 63, 64, 65, 66, 67, 68, 69, 70, 71, 72] (by decide +kernel) (by decide +kernel)
set_option maxRecDepth 20000 in
theorem gX11_strike_X11_isJurorAt : GoodIn wsX11_strike (wsV RX11 343 RX11 yX11_isJurorAt wsX11_isJurorAt) := goodIn_app (goodIn_of _ (by decide +kernel)) ggX11_strike_X11_isJurorAt
set_option maxRecDepth 20000 in
theorem ggX11_strike_X11_no : GoodIn wsX11_strike wsX11_no := goodIn_r _ [15, 2, 27, 28, 29, 30, 31, 32, 33, 34, 35, 36, 37, 38, 39, 40, 41, 42, 43, 44, 45, 46, 47, 48, 49, 50, 51, 52, 53, 54, 55, 56, 57, 58, 59, 60, 61, 62, 63, 64, 65, 66, 67, 68, 69, 70, 71, 72] (by decide +kernel) (by decide +kernel)
set_option maxRecDepth 20000 in
theorem gX11_strike_X11_no : GoodIn wsX11_strike (wsV RX11 86 RX11 yX11_no wsX11_no) := goodIn_app (goodIn_of _ (by decide +kernel)) ggX11_strike_X11_no
set_option maxRecDepth 20000 in
theorem ggX11_strike_X11_strikesOne : GoodIn wsX11_strike wsX11_strikesOne := goodIn_r _ [19, 8, 20, 21, 22, 6, 23, 24, 25, 26, 27, 28, 29, 30, 31, 32, 33, 34, 35, 36, 37, 38, 39, 40, 41, 42, 43, 44, 45, 46, 47, 48, 49, 50, 51, 52, 53, 54, 55, 56, 57, 58, 59, 60, 61, 62, 63, 64, 65, 66, 67, 68, 69, 70, 71, 72] (by decide +kernel) (by decide +kernel)
set_option maxRecDepth 20000 in
theorem gX11_strike_X11_strikesOne : GoodIn wsX11_strike (wsV RX11 395 RX11 yX11_strikesOne wsX11_strikesOne) := goodIn_app (goodIn_of _ (by decide +kernel)) ggX11_strike_X11_strikesOne
theorem dX11_strike_0 : decode cX11_strike 0 = .ok (.aload_n 0, 1) := by decide +kernel
theorem dX11_strike_1 : decode cX11_strike 1 = .ok (.iconst 0, 1) := by decide +kernel
theorem dX11_strike_2 : decode cX11_strike 2 = .ok (.putfield 71, 3) := by decide +kernel
theorem dX11_strike_5 : decode cX11_strike 5 = .ok (.aload_n 0, 1) := by decide +kernel
theorem dX11_strike_6 : decode cX11_strike 6 = .ok (.iconst 0, 1) := by decide +kernel
theorem dX11_strike_7 : decode cX11_strike 7 = .ok (.putfield 74, 3) := by decide +kernel
theorem dX11_strike_10 : decode cX11_strike 10 = .ok (.aload_n 0, 1) := by decide +kernel
theorem dX11_strike_11 : decode cX11_strike 11 = .ok (.iload_n 1, 1) := by decide +kernel
theorem dX11_strike_12 : decode cX11_strike 12 = .ok (.invokevirtual 343, 3) := by decide +kernel
theorem dX11_strike_15 : decode cX11_strike 15 = .ok (.ifCond .ne 9, 3) := by decide +kernel
theorem dX11_strike_18 : decode cX11_strike 18 = .ok (.aload_n 0, 1) := by decide +kernel
theorem dX11_strike_19 : decode cX11_strike 19 = .ok (.iconst 2, 1) := by decide +kernel
theorem dX11_strike_20 : decode cX11_strike 20 = .ok (.invokevirtual 86, 3) := by decide +kernel
theorem dX11_strike_23 : decode cX11_strike 23 = .ok (.ireturn, 1) := by decide +kernel
theorem dX11_strike_24 : decode cX11_strike 24 = .ok (.aload_n 0, 1) := by decide +kernel
theorem dX11_strike_25 : decode cX11_strike 25 = .ok (.iload_n 1, 1) := by decide +kernel
theorem dX11_strike_26 : decode cX11_strike 26 = .ok (.invokevirtual 395, 3) := by decide +kernel
theorem dX11_strike_29 : decode cX11_strike 29 = .ok (.ifCond .ne 12, 3) := by decide +kernel
theorem dX11_strike_32 : decode cX11_strike 32 = .ok (.aload_n 0, 1) := by decide +kernel
theorem dX11_strike_33 : decode cX11_strike 33 = .ok (.bipush 9, 2) := by decide +kernel
theorem dX11_strike_35 : decode cX11_strike 35 = .ok (.invokevirtual 86, 3) := by decide +kernel
theorem dX11_strike_38 : decode cX11_strike 38 = .ok (.ifCond .eq 7, 3) := by decide +kernel
theorem dX11_strike_41 : decode cX11_strike 41 = .ok (.iconst 1, 1) := by decide +kernel
theorem dX11_strike_42 : decode cX11_strike 42 = .ok (.goto 4, 3) := by decide +kernel
theorem dX11_strike_45 : decode cX11_strike 45 = .ok (.iconst 0, 1) := by decide +kernel
theorem dX11_strike_46 : decode cX11_strike 46 = .ok (.ireturn, 1) := by decide +kernel
set_option maxRecDepth 20000 in
theorem ggX11_seat_X11_isJurorAt : GoodIn wsX11_seat wsX11_isJurorAt := goodIn_r _ [7, 8, 9, 10, 6, 11, 27, 28, 29, 30, 31, 32, 33, 34, 35, 36, 37, 38, 39, 40, 41, 42, 43, 44, 45, 46, 47, 48, 49, 50, 51, 52, 53, 54, 55, 56, 57, 58, 59, 60, 61, 62, 63, 64, 65, 66, 67, 68, 69, 70, 71, 72] (by decide +kernel) (by decide +kernel)
set_option maxRecDepth 20000 in
theorem gX11_seat_X11_isJurorAt : GoodIn wsX11_seat (wsV RX11 343 RX11 yX11_isJurorAt wsX11_isJurorAt) := goodIn_app (goodIn_of _ (by decide +kernel)) ggX11_seat_X11_isJurorAt
set_option maxRecDepth 20000 in
theorem ggX11_seat_X11_no : GoodIn wsX11_seat wsX11_no := goodIn_r _ [15, 2, 27, 28, 29, 30, 31, 32, 33, 34, 35, 36, 37, 38, 39, 40, 41, 42, 43, 44, 45, 46, 47, 48, 49, 50, 51, 52, 53, 54, 55, 56, 57, 58, 59, 60, 61, 62, 63, 64, 65, 66, 67, 68, 69, 70, 71, 72] (by decide +kernel) (by decide +kernel)
set_option maxRecDepth 20000 in
theorem gX11_seat_X11_no : GoodIn wsX11_seat (wsV RX11 86 RX11 yX11_no wsX11_no) := goodIn_app (goodIn_of _ (by decide +kernel)) ggX11_seat_X11_no
set_option maxRecDepth 20000 in
theorem ggX11_seat_X11_seatsOne : GoodIn wsX11_seat wsX11_seatsOne := goodIn_r _ [19, 8, 20, 21, 22, 6, 23, 24, 25, 26, 27, 28, 29, 30, 31, 32, 33, 34, 35, 36, 37, 38, 39, 40, 41, 42, 43, 44, 45, 46, 47, 48, 49, 50, 51, 52, 53, 54, 55, 56, 57, 58, 59, 60, 61, 62, 63, 64, 65, 66, 67, 68, 69, 70, 71, 72] (by decide +kernel) (by decide +kernel)
set_option maxRecDepth 20000 in
theorem gX11_seat_X11_seatsOne : GoodIn wsX11_seat (wsV RX11 398 RX11 yX11_seatsOne wsX11_seatsOne) := goodIn_app (goodIn_of _ (by decide +kernel)) ggX11_seat_X11_seatsOne
theorem dX11_seat_0 : decode cX11_seat 0 = .ok (.aload_n 0, 1) := by decide +kernel
theorem dX11_seat_1 : decode cX11_seat 1 = .ok (.iconst 0, 1) := by decide +kernel
theorem dX11_seat_2 : decode cX11_seat 2 = .ok (.putfield 71, 3) := by decide +kernel
theorem dX11_seat_5 : decode cX11_seat 5 = .ok (.aload_n 0, 1) := by decide +kernel
theorem dX11_seat_6 : decode cX11_seat 6 = .ok (.iconst 0, 1) := by decide +kernel
theorem dX11_seat_7 : decode cX11_seat 7 = .ok (.putfield 74, 3) := by decide +kernel
theorem dX11_seat_10 : decode cX11_seat 10 = .ok (.aload_n 0, 1) := by decide +kernel
theorem dX11_seat_11 : decode cX11_seat 11 = .ok (.iload_n 1, 1) := by decide +kernel
theorem dX11_seat_12 : decode cX11_seat 12 = .ok (.invokevirtual 343, 3) := by decide +kernel
theorem dX11_seat_15 : decode cX11_seat 15 = .ok (.ifCond .ne 9, 3) := by decide +kernel
theorem dX11_seat_18 : decode cX11_seat 18 = .ok (.aload_n 0, 1) := by decide +kernel
theorem dX11_seat_19 : decode cX11_seat 19 = .ok (.iconst 2, 1) := by decide +kernel
theorem dX11_seat_20 : decode cX11_seat 20 = .ok (.invokevirtual 86, 3) := by decide +kernel
theorem dX11_seat_23 : decode cX11_seat 23 = .ok (.ireturn, 1) := by decide +kernel
theorem dX11_seat_24 : decode cX11_seat 24 = .ok (.aload_n 0, 1) := by decide +kernel
theorem dX11_seat_25 : decode cX11_seat 25 = .ok (.iload_n 1, 1) := by decide +kernel
theorem dX11_seat_26 : decode cX11_seat 26 = .ok (.invokevirtual 398, 3) := by decide +kernel
theorem dX11_seat_29 : decode cX11_seat 29 = .ok (.ifCond .ne 12, 3) := by decide +kernel
theorem dX11_seat_32 : decode cX11_seat 32 = .ok (.aload_n 0, 1) := by decide +kernel
theorem dX11_seat_33 : decode cX11_seat 33 = .ok (.bipush 9, 2) := by decide +kernel
theorem dX11_seat_35 : decode cX11_seat 35 = .ok (.invokevirtual 86, 3) := by decide +kernel
theorem dX11_seat_38 : decode cX11_seat 38 = .ok (.ifCond .eq 7, 3) := by decide +kernel
theorem dX11_seat_41 : decode cX11_seat 41 = .ok (.iconst 1, 1) := by decide +kernel
theorem dX11_seat_42 : decode cX11_seat 42 = .ok (.goto 4, 3) := by decide +kernel
theorem dX11_seat_45 : decode cX11_seat 45 = .ok (.iconst 0, 1) := by decide +kernel
theorem dX11_seat_46 : decode cX11_seat 46 = .ok (.ireturn, 1) := by decide +kernel
set_option maxRecDepth 20000 in
theorem ggX11_bribesOne_X11_isSeated : GoodIn wsX11_bribesOne wsX11_isSeated := goodIn_r _ [6, 1, 7, 8, 5, 9, 10, 11, 12, 13, 14, 15, 16, 17, 18, 19, 20, 21, 22, 23, 24, 25, 26, 27, 28, 29, 30, 31, 32, 33, 34, 35, 36, 37, 38, 39, 40, 41, 42, 43, 44, 45, 46, 47, 48, 49, 50, 51, 52, 53, 54, 55] (by decide +kernel) (by decide +kernel)
set_option maxRecDepth 20000 in
theorem gX11_bribesOne_X11_isSeated : GoodIn wsX11_bribesOne (wsV RX11 361 RX11 yX11_isSeated wsX11_isSeated) := goodIn_app (goodIn_of _ (by decide +kernel)) ggX11_bribesOne_X11_isSeated
theorem dX11_bribesOne_0 : decode cX11_bribesOne 0 = .ok (.aload_n 0, 1) := by decide +kernel
theorem dX11_bribesOne_1 : decode cX11_bribesOne 1 = .ok (.getfield 35, 3) := by decide +kernel
theorem dX11_bribesOne_4 : decode cX11_bribesOne 4 = .ok (.bipush 9, 2) := by decide +kernel
theorem dX11_bribesOne_6 : decode cX11_bribesOne 6 = .ok (.iaload, 1) := by decide +kernel
theorem dX11_bribesOne_7 : decode cX11_bribesOne 7 = .ok (.aload_n 0, 1) := by decide +kernel
theorem dX11_bribesOne_8 : decode cX11_bribesOne 8 = .ok (.getfield 35, 3) := by decide +kernel
theorem dX11_bribesOne_11 : decode cX11_bribesOne 11 = .ok (.bipush 32, 2) := by decide +kernel
theorem dX11_bribesOne_13 : decode cX11_bribesOne 13 = .ok (.iload_n 1, 1) := by decide +kernel
theorem dX11_bribesOne_14 : decode cX11_bribesOne 14 = .ok (.iadd, 1) := by decide +kernel
theorem dX11_bribesOne_15 : decode cX11_bribesOne 15 = .ok (.iaload, 1) := by decide +kernel
theorem dX11_bribesOne_16 : decode cX11_bribesOne 16 = .ok (.iadd, 1) := by decide +kernel
theorem dX11_bribesOne_17 : decode cX11_bribesOne 17 = .ok (.sipush 9999, 3) := by decide +kernel
theorem dX11_bribesOne_20 : decode cX11_bribesOne 20 = .ok (.if_icmp .le 6, 3) := by decide +kernel
theorem dX11_bribesOne_23 : decode cX11_bribesOne 23 = .ok (.bipush 7, 2) := by decide +kernel
theorem dX11_bribesOne_25 : decode cX11_bribesOne 25 = .ok (.ireturn, 1) := by decide +kernel
theorem dX11_bribesOne_26 : decode cX11_bribesOne 26 = .ok (.aload_n 0, 1) := by decide +kernel
theorem dX11_bribesOne_27 : decode cX11_bribesOne 27 = .ok (.iload_n 1, 1) := by decide +kernel
theorem dX11_bribesOne_28 : decode cX11_bribesOne 28 = .ok (.invokevirtual 361, 3) := by decide +kernel
theorem dX11_bribesOne_31 : decode cX11_bribesOne 31 = .ok (.ifCond .ne 6, 3) := by decide +kernel
theorem dX11_bribesOne_34 : decode cX11_bribesOne 34 = .ok (.bipush 9, 2) := by decide +kernel
theorem dX11_bribesOne_36 : decode cX11_bribesOne 36 = .ok (.ireturn, 1) := by decide +kernel
theorem dX11_bribesOne_37 : decode cX11_bribesOne 37 = .ok (.aload_n 0, 1) := by decide +kernel
theorem dX11_bribesOne_38 : decode cX11_bribesOne 38 = .ok (.getfield 35, 3) := by decide +kernel
theorem dX11_bribesOne_41 : decode cX11_bribesOne 41 = .ok (.bipush 9, 2) := by decide +kernel
theorem dX11_bribesOne_43 : decode cX11_bribesOne 43 = .ok (.dup2, 1) := by decide +kernel
theorem dX11_bribesOne_44 : decode cX11_bribesOne 44 = .ok (.iaload, 1) := by decide +kernel
theorem dX11_bribesOne_45 : decode cX11_bribesOne 45 = .ok (.aload_n 0, 1) := by decide +kernel
theorem dX11_bribesOne_46 : decode cX11_bribesOne 46 = .ok (.getfield 35, 3) := by decide +kernel
theorem dX11_bribesOne_49 : decode cX11_bribesOne 49 = .ok (.bipush 32, 2) := by decide +kernel
theorem dX11_bribesOne_51 : decode cX11_bribesOne 51 = .ok (.iload_n 1, 1) := by decide +kernel
theorem dX11_bribesOne_52 : decode cX11_bribesOne 52 = .ok (.iadd, 1) := by decide +kernel
theorem dX11_bribesOne_53 : decode cX11_bribesOne 53 = .ok (.iaload, 1) := by decide +kernel
theorem dX11_bribesOne_54 : decode cX11_bribesOne 54 = .ok (.iadd, 1) := by decide +kernel
theorem dX11_bribesOne_55 : decode cX11_bribesOne 55 = .ok (.iastore, 1) := by decide +kernel
theorem dX11_bribesOne_56 : decode cX11_bribesOne 56 = .ok (.aload_n 0, 1) := by decide +kernel
theorem dX11_bribesOne_57 : decode cX11_bribesOne 57 = .ok (.getfield 35, 3) := by decide +kernel
theorem dX11_bribesOne_60 : decode cX11_bribesOne 60 = .ok (.bipush 42, 2) := by decide +kernel
theorem dX11_bribesOne_62 : decode cX11_bribesOne 62 = .ok (.iload_n 1, 1) := by decide +kernel
theorem dX11_bribesOne_63 : decode cX11_bribesOne 63 = .ok (.iadd, 1) := by decide +kernel
theorem dX11_bribesOne_64 : decode cX11_bribesOne 64 = .ok (.iload_n 2, 1) := by decide +kernel
theorem dX11_bribesOne_65 : decode cX11_bribesOne 65 = .ok (.ifCond .le 8, 3) := by decide +kernel
theorem dX11_bribesOne_68 : decode cX11_bribesOne 68 = .ok (.bipush 99, 2) := by decide +kernel
theorem dX11_bribesOne_70 : decode cX11_bribesOne 70 = .ok (.goto 5, 3) := by decide +kernel
theorem dX11_bribesOne_73 : decode cX11_bribesOne 73 = .ok (.bipush (-99), 2) := by decide +kernel
theorem dX11_bribesOne_75 : decode cX11_bribesOne 75 = .ok (.iastore, 1) := by decide +kernel
theorem dX11_bribesOne_76 : decode cX11_bribesOne 76 = .ok (.iconst 0, 1) := by decide +kernel
theorem dX11_bribesOne_77 : decode cX11_bribesOne 77 = .ok (.ireturn, 1) := by decide +kernel
set_option maxRecDepth 20000 in
theorem ggX11_bribe_X11_isJurorAt : GoodIn wsX11_bribe wsX11_isJurorAt := goodIn_r _ [8, 3, 9, 10, 7, 11, 27, 28, 29, 30, 31, 32, 33, 34, 35, 36, 37, 38, 39, 40, 41, 42, 43, 44, 45, 46, 47, 48, 49, 50, 51, 52, 53, 54, 55, 56, 57, 58, 59, 60, 61, 62, 63, 64, 65, 66, 67, 68, 69, 70, 71, 72] (by decide +kernel) (by decide +kernel)
set_option maxRecDepth 20000 in
theorem gX11_bribe_X11_isJurorAt : GoodIn wsX11_bribe (wsV RX11 343 RX11 yX11_isJurorAt wsX11_isJurorAt) := goodIn_app (goodIn_of _ (by decide +kernel)) ggX11_bribe_X11_isJurorAt
set_option maxRecDepth 20000 in
theorem ggX11_bribe_X11_refuse : GoodIn wsX11_bribe wsX11_refuse := goodIn_r _ [15, 2, 27, 28, 29, 30, 31, 32, 33, 34, 35, 36, 37, 38, 39, 40, 41, 42, 43, 44, 45, 46, 47, 48, 49, 50, 51, 52, 53, 54, 55, 56, 57, 58, 59, 60, 61, 62, 63, 64, 65, 66, 67, 68, 69, 70, 71, 72] (by decide +kernel) (by decide +kernel)
set_option maxRecDepth 20000 in
theorem gX11_bribe_X11_refuse : GoodIn wsX11_bribe (wsV RX11 340 RX11 yX11_refuse wsX11_refuse) := goodIn_app (goodIn_of _ (by decide +kernel)) ggX11_bribe_X11_refuse
set_option maxRecDepth 20000 in
theorem ggX11_bribe_X11_bribesOne : GoodIn wsX11_bribe wsX11_bribesOne := goodIn_r _ [19, 3, 20, 21, 22, 7, 23, 24, 25, 26, 27, 28, 29, 30, 31, 32, 33, 34, 35, 36, 37, 38, 39, 40, 41, 42, 43, 44, 45, 46, 47, 48, 49, 50, 51, 52, 53, 54, 55, 56, 57, 58, 59, 60, 61, 62, 63, 64, 65, 66, 67, 68, 69, 70, 71, 72] (by decide +kernel) (by decide +kernel)
set_option maxRecDepth 20000 in
theorem gX11_bribe_X11_bribesOne : GoodIn wsX11_bribe (wsV RX11 401 RX11 yX11_bribesOne wsX11_bribesOne) := goodIn_app (goodIn_of _ (by decide +kernel)) ggX11_bribe_X11_bribesOne
theorem dX11_bribe_0 : decode cX11_bribe 0 = .ok (.aload_n 0, 1) := by decide +kernel
theorem dX11_bribe_1 : decode cX11_bribe 1 = .ok (.iconst 0, 1) := by decide +kernel
theorem dX11_bribe_2 : decode cX11_bribe 2 = .ok (.putfield 71, 3) := by decide +kernel
theorem dX11_bribe_5 : decode cX11_bribe 5 = .ok (.aload_n 0, 1) := by decide +kernel
theorem dX11_bribe_6 : decode cX11_bribe 6 = .ok (.iconst 0, 1) := by decide +kernel
theorem dX11_bribe_7 : decode cX11_bribe 7 = .ok (.putfield 74, 3) := by decide +kernel
theorem dX11_bribe_10 : decode cX11_bribe 10 = .ok (.aload_n 0, 1) := by decide +kernel
theorem dX11_bribe_11 : decode cX11_bribe 11 = .ok (.iload_n 1, 1) := by decide +kernel
theorem dX11_bribe_12 : decode cX11_bribe 12 = .ok (.invokevirtual 343, 3) := by decide +kernel
theorem dX11_bribe_15 : decode cX11_bribe 15 = .ok (.ifCond .ne 9, 3) := by decide +kernel
theorem dX11_bribe_18 : decode cX11_bribe 18 = .ok (.aload_n 0, 1) := by decide +kernel
theorem dX11_bribe_19 : decode cX11_bribe 19 = .ok (.iconst 2, 1) := by decide +kernel
theorem dX11_bribe_20 : decode cX11_bribe 20 = .ok (.invokevirtual 340, 3) := by decide +kernel
theorem dX11_bribe_23 : decode cX11_bribe 23 = .ok (.ireturn, 1) := by decide +kernel
theorem dX11_bribe_24 : decode cX11_bribe 24 = .ok (.iload_n 2, 1) := by decide +kernel
theorem dX11_bribe_25 : decode cX11_bribe 25 = .ok (.iconst 1, 1) := by decide +kernel
theorem dX11_bribe_26 : decode cX11_bribe 26 = .ok (.if_icmp .eq 14, 3) := by decide +kernel
theorem dX11_bribe_29 : decode cX11_bribe 29 = .ok (.iload_n 2, 1) := by decide +kernel
theorem dX11_bribe_30 : decode cX11_bribe 30 = .ok (.iconst (-1), 1) := by decide +kernel
theorem dX11_bribe_31 : decode cX11_bribe 31 = .ok (.if_icmp .eq 9, 3) := by decide +kernel
theorem dX11_bribe_34 : decode cX11_bribe 34 = .ok (.aload_n 0, 1) := by decide +kernel
theorem dX11_bribe_35 : decode cX11_bribe 35 = .ok (.iconst 5, 1) := by decide +kernel
theorem dX11_bribe_36 : decode cX11_bribe 36 = .ok (.invokevirtual 340, 3) := by decide +kernel
theorem dX11_bribe_39 : decode cX11_bribe 39 = .ok (.ireturn, 1) := by decide +kernel
theorem dX11_bribe_40 : decode cX11_bribe 40 = .ok (.aload_n 0, 1) := by decide +kernel
theorem dX11_bribe_41 : decode cX11_bribe 41 = .ok (.iload_n 1, 1) := by decide +kernel
theorem dX11_bribe_42 : decode cX11_bribe 42 = .ok (.iload_n 2, 1) := by decide +kernel
theorem dX11_bribe_43 : decode cX11_bribe 43 = .ok (.invokevirtual 401, 3) := by decide +kernel
theorem dX11_bribe_46 : decode cX11_bribe 46 = .ok (.istore_n 3, 1) := by decide +kernel
theorem dX11_bribe_47 : decode cX11_bribe 47 = .ok (.iload_n 3, 1) := by decide +kernel
theorem dX11_bribe_48 : decode cX11_bribe 48 = .ok (.ifCond .le 11, 3) := by decide +kernel
theorem dX11_bribe_51 : decode cX11_bribe 51 = .ok (.aload_n 0, 1) := by decide +kernel
theorem dX11_bribe_52 : decode cX11_bribe 52 = .ok (.iload_n 3, 1) := by decide +kernel
theorem dX11_bribe_53 : decode cX11_bribe 53 = .ok (.invokevirtual 340, 3) := by decide +kernel
theorem dX11_bribe_56 : decode cX11_bribe 56 = .ok (.goto 10, 3) := by decide +kernel
theorem dX11_bribe_59 : decode cX11_bribe 59 = .ok (.aload_n 0, 1) := by decide +kernel
theorem dX11_bribe_60 : decode cX11_bribe 60 = .ok (.getfield 35, 3) := by decide +kernel
theorem dX11_bribe_63 : decode cX11_bribe 63 = .ok (.bipush 9, 2) := by decide +kernel
theorem dX11_bribe_65 : decode cX11_bribe 65 = .ok (.iaload, 1) := by decide +kernel
theorem dX11_bribe_66 : decode cX11_bribe 66 = .ok (.ireturn, 1) := by decide +kernel
set_option maxRecDepth 20000 in
theorem ggX11_lean_X11_isJurorAt : GoodIn wsX11_lean wsX11_isJurorAt := goodIn_r _ [10, 5, 11, 12, 9, 13, 18, 19, 20, 21, 22, 23, 24, 25, 26, 27, 28, 29, 30, 31, 32, 33, 34, 35, 36, 37, 38, 39, 40, 41, 42, 43, 44, 45, 46, 47, 48, 49, 50, 51, 52, 53, 54, 55, 56, 57, 58, 59, 60, 61, 62, 63] (by decide +kernel) (by decide +kernel)
set_option maxRecDepth 20000 in
theorem gX11_lean_X11_isJurorAt : GoodIn wsX11_lean (wsV RX11 343 RX11 yX11_isJurorAt wsX11_isJurorAt) := goodIn_app (goodIn_of _ (by decide +kernel)) ggX11_lean_X11_isJurorAt
set_option maxRecDepth 20000 in
theorem ggX11_lean_X11_no : GoodIn wsX11_lean wsX11_no := goodIn_r _ [17, 2, 18, 19, 20, 21, 22, 23, 24, 25, 26, 27, 28, 29, 30, 31, 32, 33, 34, 35, 36, 37, 38, 39, 40, 41, 42, 43, 44, 45, 46, 47, 48, 49, 50, 51, 52, 53, 54, 55, 56, 57, 58, 59, 60, 61, 62, 63] (by decide +kernel) (by decide +kernel)
set_option maxRecDepth 20000 in
theorem gX11_lean_X11_no : GoodIn wsX11_lean (wsV RX11 86 RX11 yX11_no wsX11_no) := goodIn_app (goodIn_of _ (by decide +kernel)) ggX11_lean_X11_no
set_option maxRecDepth 20000 in
theorem ggX11_lean_X11_isIn : GoodIn wsX11_lean wsX11_isIn := goodIn_r _ [13] (by decide +kernel) (by decide +kernel)
set_option maxRecDepth 20000 in
theorem gX11_lean_X11_isIn : GoodIn wsX11_lean (va_wsS RX11 106 yX11_isIn wsX11_isIn) := goodIn_app (goodIn_of _ (by decide +kernel)) ggX11_lean_X11_isIn
theorem dX11_lean_0 : decode cX11_lean 0 = .ok (.aload_n 0, 1) := by decide +kernel
theorem dX11_lean_1 : decode cX11_lean 1 = .ok (.iconst 0, 1) := by decide +kernel
theorem dX11_lean_2 : decode cX11_lean 2 = .ok (.putfield 71, 3) := by decide +kernel
theorem dX11_lean_5 : decode cX11_lean 5 = .ok (.aload_n 0, 1) := by decide +kernel
theorem dX11_lean_6 : decode cX11_lean 6 = .ok (.iconst 0, 1) := by decide +kernel
theorem dX11_lean_7 : decode cX11_lean 7 = .ok (.putfield 74, 3) := by decide +kernel
theorem dX11_lean_10 : decode cX11_lean 10 = .ok (.aload_n 0, 1) := by decide +kernel
theorem dX11_lean_11 : decode cX11_lean 11 = .ok (.iload_n 1, 1) := by decide +kernel
theorem dX11_lean_12 : decode cX11_lean 12 = .ok (.invokevirtual 343, 3) := by decide +kernel
theorem dX11_lean_15 : decode cX11_lean 15 = .ok (.ifCond .ne 9, 3) := by decide +kernel
theorem dX11_lean_18 : decode cX11_lean 18 = .ok (.aload_n 0, 1) := by decide +kernel
theorem dX11_lean_19 : decode cX11_lean 19 = .ok (.iconst 2, 1) := by decide +kernel
theorem dX11_lean_20 : decode cX11_lean 20 = .ok (.invokevirtual 86, 3) := by decide +kernel
theorem dX11_lean_23 : decode cX11_lean 23 = .ok (.ireturn, 1) := by decide +kernel
theorem dX11_lean_24 : decode cX11_lean 24 = .ok (.iload_n 2, 1) := by decide +kernel
theorem dX11_lean_25 : decode cX11_lean 25 = .ok (.i2l, 1) := by decide +kernel
theorem dX11_lean_26 : decode cX11_lean 26 = .ok (.ldc2_w 404, 3) := by decide +kernel
theorem dX11_lean_29 : decode cX11_lean 29 = .ok (.ldc2_w 384, 3) := by decide +kernel
theorem dX11_lean_32 : decode cX11_lean 32 = .ok (.invokestatic 106, 3) := by decide +kernel
theorem dX11_lean_35 : decode cX11_lean 35 = .ok (.ifCond .ne 9, 3) := by decide +kernel
theorem dX11_lean_38 : decode cX11_lean 38 = .ok (.aload_n 0, 1) := by decide +kernel
theorem dX11_lean_39 : decode cX11_lean 39 = .ok (.iconst 5, 1) := by decide +kernel
theorem dX11_lean_40 : decode cX11_lean 40 = .ok (.invokevirtual 86, 3) := by decide +kernel
theorem dX11_lean_43 : decode cX11_lean 43 = .ok (.ireturn, 1) := by decide +kernel
theorem dX11_lean_44 : decode cX11_lean 44 = .ok (.aload_n 0, 1) := by decide +kernel
theorem dX11_lean_45 : decode cX11_lean 45 = .ok (.getfield 35, 3) := by decide +kernel
theorem dX11_lean_48 : decode cX11_lean 48 = .ok (.bipush 42, 2) := by decide +kernel
theorem dX11_lean_50 : decode cX11_lean 50 = .ok (.iload_n 1, 1) := by decide +kernel
theorem dX11_lean_51 : decode cX11_lean 51 = .ok (.iadd, 1) := by decide +kernel
theorem dX11_lean_52 : decode cX11_lean 52 = .ok (.iload_n 2, 1) := by decide +kernel
theorem dX11_lean_53 : decode cX11_lean 53 = .ok (.iastore, 1) := by decide +kernel
theorem dX11_lean_54 : decode cX11_lean 54 = .ok (.iconst 1, 1) := by decide +kernel
theorem dX11_lean_55 : decode cX11_lean 55 = .ok (.ireturn, 1) := by decide +kernel
set_option maxRecDepth 20000 in
theorem ggX11_votes_X11_isIn : GoodIn wsX11_votes wsX11_isIn := goodIn_r _ [6] (by decide +kernel) (by decide +kernel)
set_option maxRecDepth 20000 in
theorem gX11_votes_X11_isIn : GoodIn wsX11_votes (va_wsS RX11 106 yX11_isIn wsX11_isIn) := goodIn_app (goodIn_of _ (by decide +kernel)) ggX11_votes_X11_isIn
set_option maxRecDepth 20000 in
theorem ggX11_votes_X11_votesFor : GoodIn wsX11_votes wsX11_votesFor := goodIn_r _ [10, 11, 12, 13, 14, 5, 15, 16, 17, 18, 23, 24, 25, 26, 27, 28, 29, 30, 31, 32, 33, 34, 35, 36, 37, 38, 39, 40, 41, 42, 43, 44, 45, 46, 47, 48, 49, 50, 51, 52, 53, 54, 55, 56, 57, 58, 59, 60, 61, 62, 63, 64, 65, 66, 67, 68] (by decide +kernel) (by decide +kernel)
set_option maxRecDepth 20000 in
theorem gX11_votes_X11_votesFor : GoodIn wsX11_votes (wsV RX11 374 RX11 yX11_votesFor wsX11_votesFor) := goodIn_app (goodIn_of _ (by decide +kernel)) ggX11_votes_X11_votesFor
set_option maxRecDepth 20000 in
theorem ggX11_votes_X11_refuse : GoodIn wsX11_votes wsX11_refuse := goodIn_r _ [22, 2, 23, 24, 25, 26, 27, 28, 29, 30, 31, 32, 33, 34, 35, 36, 37, 38, 39, 40, 41, 42, 43, 44, 45, 46, 47, 48, 49, 50, 51, 52, 53, 54, 55, 56, 57, 58, 59, 60, 61, 62, 63, 64, 65, 66, 67, 68] (by decide +kernel) (by decide +kernel)
set_option maxRecDepth 20000 in
theorem gX11_votes_X11_refuse : GoodIn wsX11_votes (wsV RX11 340 RX11 yX11_refuse wsX11_refuse) := goodIn_app (goodIn_of _ (by decide +kernel)) ggX11_votes_X11_refuse
theorem dX11_votes_0 : decode cX11_votes 0 = .ok (.aload_n 0, 1) := by decide +kernel
theorem dX11_votes_1 : decode cX11_votes 1 = .ok (.iconst 0, 1) := by decide +kernel
theorem dX11_votes_2 : decode cX11_votes 2 = .ok (.putfield 71, 3) := by decide +kernel
theorem dX11_votes_5 : decode cX11_votes 5 = .ok (.aload_n 0, 1) := by decide +kernel
theorem dX11_votes_6 : decode cX11_votes 6 = .ok (.iconst 0, 1) := by decide +kernel
theorem dX11_votes_7 : decode cX11_votes 7 = .ok (.putfield 74, 3) := by decide +kernel
theorem dX11_votes_10 : decode cX11_votes 10 = .ok (.iload_n 1, 1) := by decide +kernel
theorem dX11_votes_11 : decode cX11_votes 11 = .ok (.i2l, 1) := by decide +kernel
theorem dX11_votes_12 : decode cX11_votes 12 = .ok (.lconst 0, 1) := by decide +kernel
theorem dX11_votes_13 : decode cX11_votes 13 = .ok (.lconst 1, 1) := by decide +kernel
theorem dX11_votes_14 : decode cX11_votes 14 = .ok (.invokestatic 106, 3) := by decide +kernel
theorem dX11_votes_17 : decode cX11_votes 17 = .ok (.ifCond .eq 19, 3) := by decide +kernel
theorem dX11_votes_20 : decode cX11_votes 20 = .ok (.aload_n 0, 1) := by decide +kernel
theorem dX11_votes_21 : decode cX11_votes 21 = .ok (.iload_n 1, 1) := by decide +kernel
theorem dX11_votes_22 : decode cX11_votes 22 = .ok (.ifCond .ne 7, 3) := by decide +kernel
theorem dX11_votes_25 : decode cX11_votes 25 = .ok (.iconst 1, 1) := by decide +kernel
theorem dX11_votes_26 : decode cX11_votes 26 = .ok (.goto 4, 3) := by decide +kernel
theorem dX11_votes_29 : decode cX11_votes 29 = .ok (.iconst (-1), 1) := by decide +kernel
theorem dX11_votes_30 : decode cX11_votes 30 = .ok (.invokevirtual 374, 3) := by decide +kernel
theorem dX11_votes_33 : decode cX11_votes 33 = .ok (.goto 8, 3) := by decide +kernel
theorem dX11_votes_36 : decode cX11_votes 36 = .ok (.aload_n 0, 1) := by decide +kernel
theorem dX11_votes_37 : decode cX11_votes 37 = .ok (.iconst 5, 1) := by decide +kernel
theorem dX11_votes_38 : decode cX11_votes 38 = .ok (.invokevirtual 340, 3) := by decide +kernel
theorem dX11_votes_41 : decode cX11_votes 41 = .ok (.ireturn, 1) := by decide +kernel
set_option maxRecDepth 20000 in
theorem ggX11_verdict_X11_judged : GoodIn wsX11_verdict wsX11_judged := goodIn_r _ [7, 8, 9, 10, 11, 6, 12, 13, 14, 15, 16, 17, 18, 19, 20, 21, 22, 23, 24, 25, 26, 27, 28, 29, 30, 31, 32, 33, 34, 35, 36, 37, 38, 39, 40, 41, 42, 43, 44, 45, 46, 47, 48, 49, 50, 51, 52, 53, 54, 55, 56, 57, 58, 59, 60, 61, 62, 63, 64, 65, 66, 67, 68] (by decide +kernel) (by decide +kernel)
set_option maxRecDepth 20000 in
theorem gX11_verdict_X11_judged : GoodIn wsX11_verdict (wsV RX11 389 RX11 yX11_judged wsX11_judged) := goodIn_app (goodIn_of _ (by decide +kernel)) ggX11_verdict_X11_judged
theorem dX11_verdict_0 : decode cX11_verdict 0 = .ok (.aload_n 0, 1) := by decide +kernel
theorem dX11_verdict_1 : decode cX11_verdict 1 = .ok (.iconst 0, 1) := by decide +kernel
theorem dX11_verdict_2 : decode cX11_verdict 2 = .ok (.putfield 71, 3) := by decide +kernel
theorem dX11_verdict_5 : decode cX11_verdict 5 = .ok (.aload_n 0, 1) := by decide +kernel
theorem dX11_verdict_6 : decode cX11_verdict 6 = .ok (.iconst 0, 1) := by decide +kernel
theorem dX11_verdict_7 : decode cX11_verdict 7 = .ok (.putfield 74, 3) := by decide +kernel
theorem dX11_verdict_10 : decode cX11_verdict 10 = .ok (.aload_n 0, 1) := by decide +kernel
theorem dX11_verdict_11 : decode cX11_verdict 11 = .ok (.invokevirtual 389, 3) := by decide +kernel
theorem dX11_verdict_14 : decode cX11_verdict 14 = .ok (.ireturn, 1) := by decide +kernel
set_option maxRecDepth 20000 in
theorem ggX11_verdictBy_X11_isIn : GoodIn wsX11_verdictBy wsX11_isIn := goodIn_r _ [7] (by decide +kernel) (by decide +kernel)
set_option maxRecDepth 20000 in
theorem gX11_verdictBy_X11_isIn : GoodIn wsX11_verdictBy (va_wsS RX11 106 yX11_isIn wsX11_isIn) := goodIn_app (goodIn_of _ (by decide +kernel)) ggX11_verdictBy_X11_isIn
set_option maxRecDepth 20000 in
theorem ggX11_verdictBy_X11_votesFor : GoodIn wsX11_verdictBy wsX11_votesFor := goodIn_r _ [11, 12, 13, 14, 15, 6, 16, 17, 18, 19, 27, 28, 29, 30, 31, 32, 33, 34, 35, 36, 37, 38, 39, 40, 41, 42, 43, 44, 45, 46, 47, 48, 49, 50, 51, 52, 53, 54, 55, 56, 57, 58, 59, 60, 61, 62, 63, 64, 65, 66, 67, 68, 69, 70, 71, 72] (by decide +kernel) (by decide +kernel)
set_option maxRecDepth 20000 in
theorem gX11_verdictBy_X11_votesFor : GoodIn wsX11_verdictBy (wsV RX11 374 RX11 yX11_votesFor wsX11_votesFor) := goodIn_app (goodIn_of _ (by decide +kernel)) ggX11_verdictBy_X11_votesFor
set_option maxRecDepth 20000 in
theorem ggX11_verdictBy_X11_judge : GoodIn wsX11_verdictBy wsX11_judge := goodIn_r _ [22] (by decide +kernel) (by decide +kernel)
set_option maxRecDepth 20000 in
theorem gX11_verdictBy_X11_judge : GoodIn wsX11_verdictBy (va_wsS RX11 380 yX11_judge wsX11_judge) := goodIn_app (goodIn_of _ (by decide +kernel)) ggX11_verdictBy_X11_judge
set_option maxRecDepth 20000 in
theorem ggX11_verdictBy_X11_refuse : GoodIn wsX11_verdictBy wsX11_refuse := goodIn_r _ [26, 2, 27, 28, 29, 30, 31, 32, 33, 34, 35, 36, 37, 38, 39, 40, 41, 42, 43, 44, 45, 46, 47, 48, 49, 50, 51, 52, 53, 54, 55, 56, 57, 58, 59, 60, 61, 62, 63, 64, 65, 66, 67, 68, 69, 70, 71, 72] (by decide +kernel) (by decide +kernel)
set_option maxRecDepth 20000 in
theorem gX11_verdictBy_X11_refuse : GoodIn wsX11_verdictBy (wsV RX11 340 RX11 yX11_refuse wsX11_refuse) := goodIn_app (goodIn_of _ (by decide +kernel)) ggX11_verdictBy_X11_refuse
theorem dX11_verdictBy_0 : decode cX11_verdictBy 0 = .ok (.aload_n 0, 1) := by decide +kernel
theorem dX11_verdictBy_1 : decode cX11_verdictBy 1 = .ok (.iconst 0, 1) := by decide +kernel
theorem dX11_verdictBy_2 : decode cX11_verdictBy 2 = .ok (.putfield 71, 3) := by decide +kernel
theorem dX11_verdictBy_5 : decode cX11_verdictBy 5 = .ok (.aload_n 0, 1) := by decide +kernel
theorem dX11_verdictBy_6 : decode cX11_verdictBy 6 = .ok (.iconst 0, 1) := by decide +kernel
theorem dX11_verdictBy_7 : decode cX11_verdictBy 7 = .ok (.putfield 74, 3) := by decide +kernel
theorem dX11_verdictBy_10 : decode cX11_verdictBy 10 = .ok (.iload_n 1, 1) := by decide +kernel
theorem dX11_verdictBy_11 : decode cX11_verdictBy 11 = .ok (.i2l, 1) := by decide +kernel
theorem dX11_verdictBy_12 : decode cX11_verdictBy 12 = .ok (.lconst 0, 1) := by decide +kernel
theorem dX11_verdictBy_13 : decode cX11_verdictBy 13 = .ok (.ldc2_w 406, 3) := by decide +kernel
theorem dX11_verdictBy_16 : decode cX11_verdictBy 16 = .ok (.invokestatic 106, 3) := by decide +kernel
theorem dX11_verdictBy_19 : decode cX11_verdictBy 19 = .ok (.ifCond .eq 20, 3) := by decide +kernel
theorem dX11_verdictBy_22 : decode cX11_verdictBy 22 = .ok (.iload_n 1, 1) := by decide +kernel
theorem dX11_verdictBy_23 : decode cX11_verdictBy 23 = .ok (.aload_n 0, 1) := by decide +kernel
theorem dX11_verdictBy_24 : decode cX11_verdictBy 24 = .ok (.iconst 1, 1) := by decide +kernel
theorem dX11_verdictBy_25 : decode cX11_verdictBy 25 = .ok (.invokevirtual 374, 3) := by decide +kernel
theorem dX11_verdictBy_28 : decode cX11_verdictBy 28 = .ok (.aload_n 0, 1) := by decide +kernel
theorem dX11_verdictBy_29 : decode cX11_verdictBy 29 = .ok (.iconst (-1), 1) := by decide +kernel
theorem dX11_verdictBy_30 : decode cX11_verdictBy 30 = .ok (.invokevirtual 374, 3) := by decide +kernel
theorem dX11_verdictBy_33 : decode cX11_verdictBy 33 = .ok (.invokestatic 380, 3) := by decide +kernel
theorem dX11_verdictBy_36 : decode cX11_verdictBy 36 = .ok (.goto 8, 3) := by decide +kernel
theorem dX11_verdictBy_39 : decode cX11_verdictBy 39 = .ok (.aload_n 0, 1) := by decide +kernel
theorem dX11_verdictBy_40 : decode cX11_verdictBy 40 = .ok (.iconst 5, 1) := by decide +kernel
theorem dX11_verdictBy_41 : decode cX11_verdictBy 41 = .ok (.invokevirtual 340, 3) := by decide +kernel
theorem dX11_verdictBy_44 : decode cX11_verdictBy 44 = .ok (.ireturn, 1) := by decide +kernel
set_option maxRecDepth 20000 in
theorem ggX11_swing_X11_judged : GoodIn wsX11_swing wsX11_judged := goodIn_r _ [8, 3, 9, 10, 11, 7, 12, 13, 14, 15, 16, 17, 18, 19, 20, 21, 22, 31, 32, 33, 34, 35, 36, 37, 38, 39, 40, 41, 42, 43, 44, 45, 46, 47, 48, 49, 50, 51, 52, 53, 54, 55, 56, 57, 58, 59, 60, 61, 62, 63, 64, 65, 66, 67, 68, 69, 70, 71, 72, 73, 74, 75, 76] (by decide +kernel) (by decide +kernel)
set_option maxRecDepth 20000 in
theorem gX11_swing_X11_judged : GoodIn wsX11_swing (wsV RX11 389 RX11 yX11_judged wsX11_judged) := goodIn_app (goodIn_of _ (by decide +kernel)) ggX11_swing_X11_judged
set_option maxRecDepth 20000 in
theorem ggX11_swing_X11_strikesOne : GoodIn wsX11_swing wsX11_strikesOne := goodIn_r _ [26, 3, 13, 14, 15, 7, 16, 17, 18, 19, 31, 32, 33, 34, 35, 36, 37, 38, 39, 40, 41, 42, 43, 44, 45, 46, 47, 48, 49, 50, 51, 52, 53, 54, 55, 56, 57, 58, 59, 60, 61, 62, 63, 64, 65, 66, 67, 68, 69, 70, 71, 72, 73, 74, 75, 76] (by decide +kernel) (by decide +kernel)
set_option maxRecDepth 20000 in
theorem gX11_swing_X11_strikesOne : GoodIn wsX11_swing (wsV RX11 395 RX11 yX11_strikesOne wsX11_strikesOne) := goodIn_app (goodIn_of _ (by decide +kernel)) ggX11_swing_X11_strikesOne
set_option maxRecDepth 20000 in
theorem ggX11_swing_X11_seatsOne : GoodIn wsX11_swing wsX11_seatsOne := goodIn_r _ [30, 3, 13, 14, 15, 7, 16, 17, 18, 19, 31, 32, 33, 34, 35, 36, 37, 38, 39, 40, 41, 42, 43, 44, 45, 46, 47, 48, 49, 50, 51, 52, 53, 54, 55, 56, 57, 58, 59, 60, 61, 62, 63, 64, 65, 66, 67, 68, 69, 70, 71, 72, 73, 74, 75, 76] (by decide +kernel) (by decide +kernel)
set_option maxRecDepth 20000 in
theorem gX11_swing_X11_seatsOne : GoodIn wsX11_swing (wsV RX11 398 RX11 yX11_seatsOne wsX11_seatsOne) := goodIn_app (goodIn_of _ (by decide +kernel)) ggX11_swing_X11_seatsOne
theorem dX11_swing_0 : decode cX11_swing 0 = .ok (.aload_n 0, 1) := by decide +kernel
theorem dX11_swing_1 : decode cX11_swing 1 = .ok (.iconst 0, 1) := by decide +kernel
theorem dX11_swing_2 : decode cX11_swing 2 = .ok (.putfield 71, 3) := by decide +kernel
theorem dX11_swing_5 : decode cX11_swing 5 = .ok (.aload_n 0, 1) := by decide +kernel
theorem dX11_swing_6 : decode cX11_swing 6 = .ok (.iconst 0, 1) := by decide +kernel
theorem dX11_swing_7 : decode cX11_swing 7 = .ok (.putfield 74, 3) := by decide +kernel
theorem dX11_swing_10 : decode cX11_swing 10 = .ok (.iconst 0, 1) := by decide +kernel
theorem dX11_swing_11 : decode cX11_swing 11 = .ok (.istore_n 1, 1) := by decide +kernel
theorem dX11_swing_12 : decode cX11_swing 12 = .ok (.aload_n 0, 1) := by decide +kernel
theorem dX11_swing_13 : decode cX11_swing 13 = .ok (.invokevirtual 389, 3) := by decide +kernel
theorem dX11_swing_16 : decode cX11_swing 16 = .ok (.istore_n 2, 1) := by decide +kernel
theorem dX11_swing_17 : decode cX11_swing 17 = .ok (.iconst 0, 1) := by decide +kernel
theorem dX11_swing_18 : decode cX11_swing 18 = .ok (.istore_n 3, 1) := by decide +kernel
theorem dX11_swing_19 : decode cX11_swing 19 = .ok (.iload_n 3, 1) := by decide +kernel
theorem dX11_swing_20 : decode cX11_swing 20 = .ok (.aload_n 0, 1) := by decide +kernel
theorem dX11_swing_21 : decode cX11_swing 21 = .ok (.getfield 35, 3) := by decide +kernel
theorem dX11_swing_24 : decode cX11_swing 24 = .ok (.iconst 0, 1) := by decide +kernel
theorem dX11_swing_25 : decode cX11_swing 25 = .ok (.iaload, 1) := by decide +kernel
theorem dX11_swing_26 : decode cX11_swing 26 = .ok (.if_icmp .ge 44, 3) := by decide +kernel
theorem dX11_swing_29 : decode cX11_swing 29 = .ok (.aload_n 0, 1) := by decide +kernel
theorem dX11_swing_30 : decode cX11_swing 30 = .ok (.iload_n 3, 1) := by decide +kernel
theorem dX11_swing_31 : decode cX11_swing 31 = .ok (.invokevirtual 395, 3) := by decide +kernel
theorem dX11_swing_34 : decode cX11_swing 34 = .ok (.ifCond .ne 6, 3) := by decide +kernel
theorem dX11_swing_37 : decode cX11_swing 37 = .ok (.goto 27, 3) := by decide +kernel
theorem dX11_swing_40 : decode cX11_swing 40 = .ok (.iload_n 1, 1) := by decide +kernel
theorem dX11_swing_41 : decode cX11_swing 41 = .ok (.aload_n 0, 1) := by decide +kernel
theorem dX11_swing_42 : decode cX11_swing 42 = .ok (.invokevirtual 389, 3) := by decide +kernel
theorem dX11_swing_45 : decode cX11_swing 45 = .ok (.iload_n 2, 1) := by decide +kernel
theorem dX11_swing_46 : decode cX11_swing 46 = .ok (.if_icmp .ne 7, 3) := by decide +kernel
theorem dX11_swing_49 : decode cX11_swing 49 = .ok (.iconst 0, 1) := by decide +kernel
theorem dX11_swing_50 : decode cX11_swing 50 = .ok (.goto 6, 3) := by decide +kernel
theorem dX11_swing_53 : decode cX11_swing 53 = .ok (.iconst 1, 1) := by decide +kernel
theorem dX11_swing_54 : decode cX11_swing 54 = .ok (.iload_n 3, 1) := by decide +kernel
theorem dX11_swing_55 : decode cX11_swing 55 = .ok (.ishl, 1) := by decide +kernel
theorem dX11_swing_56 : decode cX11_swing 56 = .ok (.ior, 1) := by decide +kernel
theorem dX11_swing_57 : decode cX11_swing 57 = .ok (.istore_n 1, 1) := by decide +kernel
theorem dX11_swing_58 : decode cX11_swing 58 = .ok (.aload_n 0, 1) := by decide +kernel
theorem dX11_swing_59 : decode cX11_swing 59 = .ok (.iload_n 3, 1) := by decide +kernel
theorem dX11_swing_60 : decode cX11_swing 60 = .ok (.invokevirtual 398, 3) := by decide +kernel
theorem dX11_swing_63 : decode cX11_swing 63 = .ok (.pop, 1) := by decide +kernel
theorem dX11_swing_64 : decode cX11_swing 64 = .ok (.iinc 3 1, 3) := by decide +kernel
theorem dX11_swing_67 : decode cX11_swing 67 = .ok (.goto (-48), 3) := by decide +kernel
theorem dX11_swing_70 : decode cX11_swing 70 = .ok (.iload_n 1, 1) := by decide +kernel
theorem dX11_swing_71 : decode cX11_swing 71 = .ok (.ireturn, 1) := by decide +kernel
set_option maxRecDepth 20000 in
theorem ggX11_lacks_X11_votesFor : GoodIn wsX11_lacks wsX11_votesFor := goodIn_r _ [8, 3, 9, 10, 11, 7, 12, 13, 14, 15, 23, 24, 25, 26, 27, 28, 29, 30, 31, 32, 33, 34, 35, 36, 37, 38, 39, 40, 41, 42, 43, 44, 45, 46, 47, 48, 49, 50, 51, 52, 53, 54, 55, 56, 57, 58, 59, 60, 61, 62, 63, 64, 65, 66, 67, 68] (by decide +kernel) (by decide +kernel)
set_option maxRecDepth 20000 in
theorem gX11_lacks_X11_votesFor : GoodIn wsX11_lacks (wsV RX11 374 RX11 yX11_votesFor wsX11_votesFor) := goodIn_app (goodIn_of _ (by decide +kernel)) ggX11_lacks_X11_votesFor
set_option maxRecDepth 20000 in
theorem ggX11_lacks_X11_refuse : GoodIn wsX11_lacks wsX11_refuse := goodIn_r _ [19, 2, 23, 24, 25, 26, 27, 28, 29, 30, 31, 32, 33, 34, 35, 36, 37, 38, 39, 40, 41, 42, 43, 44, 45, 46, 47, 48, 49, 50, 51, 52, 53, 54, 55, 56, 57, 58, 59, 60, 61, 62, 63, 64, 65, 66, 67, 68] (by decide +kernel) (by decide +kernel)
set_option maxRecDepth 20000 in
theorem gX11_lacks_X11_refuse : GoodIn wsX11_lacks (wsV RX11 340 RX11 yX11_refuse wsX11_refuse) := goodIn_app (goodIn_of _ (by decide +kernel)) ggX11_lacks_X11_refuse
set_option maxRecDepth 20000 in
theorem ggX11_lacks_X11_judge : GoodIn wsX11_lacks wsX11_judge := goodIn_r _ [22] (by decide +kernel) (by decide +kernel)
set_option maxRecDepth 20000 in
theorem gX11_lacks_X11_judge : GoodIn wsX11_lacks (va_wsS RX11 380 yX11_judge wsX11_judge) := goodIn_app (goodIn_of _ (by decide +kernel)) ggX11_lacks_X11_judge
theorem dX11_lacks_0 : decode cX11_lacks 0 = .ok (.aload_n 0, 1) := by decide +kernel
theorem dX11_lacks_1 : decode cX11_lacks 1 = .ok (.iconst 0, 1) := by decide +kernel
theorem dX11_lacks_2 : decode cX11_lacks 2 = .ok (.putfield 71, 3) := by decide +kernel
theorem dX11_lacks_5 : decode cX11_lacks 5 = .ok (.aload_n 0, 1) := by decide +kernel
theorem dX11_lacks_6 : decode cX11_lacks 6 = .ok (.iconst 0, 1) := by decide +kernel
theorem dX11_lacks_7 : decode cX11_lacks 7 = .ok (.putfield 74, 3) := by decide +kernel
theorem dX11_lacks_10 : decode cX11_lacks 10 = .ok (.aload_n 0, 1) := by decide +kernel
theorem dX11_lacks_11 : decode cX11_lacks 11 = .ok (.iconst 1, 1) := by decide +kernel
theorem dX11_lacks_12 : decode cX11_lacks 12 = .ok (.invokevirtual 374, 3) := by decide +kernel
theorem dX11_lacks_15 : decode cX11_lacks 15 = .ok (.istore_n 1, 1) := by decide +kernel
theorem dX11_lacks_16 : decode cX11_lacks 16 = .ok (.aload_n 0, 1) := by decide +kernel
theorem dX11_lacks_17 : decode cX11_lacks 17 = .ok (.iconst (-1), 1) := by decide +kernel
theorem dX11_lacks_18 : decode cX11_lacks 18 = .ok (.invokevirtual 374, 3) := by decide +kernel
theorem dX11_lacks_21 : decode cX11_lacks 21 = .ok (.istore_n 2, 1) := by decide +kernel
theorem dX11_lacks_22 : decode cX11_lacks 22 = .ok (.iload_n 1, 1) := by decide +kernel
theorem dX11_lacks_23 : decode cX11_lacks 23 = .ok (.iload_n 2, 1) := by decide +kernel
theorem dX11_lacks_24 : decode cX11_lacks 24 = .ok (.iadd, 1) := by decide +kernel
theorem dX11_lacks_25 : decode cX11_lacks 25 = .ok (.ifCond .ne 10, 3) := by decide +kernel
theorem dX11_lacks_28 : decode cX11_lacks 28 = .ok (.aload_n 0, 1) := by decide +kernel
theorem dX11_lacks_29 : decode cX11_lacks 29 = .ok (.bipush 8, 2) := by decide +kernel
theorem dX11_lacks_31 : decode cX11_lacks 31 = .ok (.invokevirtual 340, 3) := by decide +kernel
theorem dX11_lacks_34 : decode cX11_lacks 34 = .ok (.ireturn, 1) := by decide +kernel
theorem dX11_lacks_35 : decode cX11_lacks 35 = .ok (.iconst 0, 1) := by decide +kernel
theorem dX11_lacks_36 : decode cX11_lacks 36 = .ok (.istore_n 3, 1) := by decide +kernel
theorem dX11_lacks_37 : decode cX11_lacks 37 = .ok (.aload_n 0, 1) := by decide +kernel
theorem dX11_lacks_38 : decode cX11_lacks 38 = .ok (.getfield 35, 3) := by decide +kernel
theorem dX11_lacks_41 : decode cX11_lacks 41 = .ok (.iconst 5, 1) := by decide +kernel
theorem dX11_lacks_42 : decode cX11_lacks 42 = .ok (.iaload, 1) := by decide +kernel
theorem dX11_lacks_43 : decode cX11_lacks 43 = .ok (.iload_n 1, 1) := by decide +kernel
theorem dX11_lacks_44 : decode cX11_lacks 44 = .ok (.iload_n 3, 1) := by decide +kernel
theorem dX11_lacks_45 : decode cX11_lacks 45 = .ok (.iadd, 1) := by decide +kernel
theorem dX11_lacks_46 : decode cX11_lacks 46 = .ok (.iload_n 2, 1) := by decide +kernel
theorem dX11_lacks_47 : decode cX11_lacks 47 = .ok (.iload_n 3, 1) := by decide +kernel
theorem dX11_lacks_48 : decode cX11_lacks 48 = .ok (.isub, 1) := by decide +kernel
theorem dX11_lacks_49 : decode cX11_lacks 49 = .ok (.invokestatic 380, 3) := by decide +kernel
theorem dX11_lacks_52 : decode cX11_lacks 52 = .ok (.iconst 1, 1) := by decide +kernel
theorem dX11_lacks_53 : decode cX11_lacks 53 = .ok (.if_icmp .eq 9, 3) := by decide +kernel
theorem dX11_lacks_56 : decode cX11_lacks 56 = .ok (.iinc 3 1, 3) := by decide +kernel
theorem dX11_lacks_59 : decode cX11_lacks 59 = .ok (.goto (-22), 3) := by decide +kernel
theorem dX11_lacks_62 : decode cX11_lacks 62 = .ok (.iload_n 3, 1) := by decide +kernel
theorem dX11_lacks_63 : decode cX11_lacks 63 = .ok (.ireturn, 1) := by decide +kernel
theorem dX11_farFrom_0 : decode cX11_farFrom 0 = .ok (.aload_n 0, 1) := by decide +kernel
theorem dX11_farFrom_1 : decode cX11_farFrom 1 = .ok (.getfield 35, 3) := by decide +kernel
theorem dX11_farFrom_4 : decode cX11_farFrom 4 = .ok (.bipush 42, 2) := by decide +kernel
theorem dX11_farFrom_6 : decode cX11_farFrom 6 = .ok (.iload_n 1, 1) := by decide +kernel
theorem dX11_farFrom_7 : decode cX11_farFrom 7 = .ok (.iadd, 1) := by decide +kernel
theorem dX11_farFrom_8 : decode cX11_farFrom 8 = .ok (.iaload, 1) := by decide +kernel
theorem dX11_farFrom_9 : decode cX11_farFrom 9 = .ok (.ifCond .le 15, 3) := by decide +kernel
theorem dX11_farFrom_12 : decode cX11_farFrom 12 = .ok (.aload_n 0, 1) := by decide +kernel
theorem dX11_farFrom_13 : decode cX11_farFrom 13 = .ok (.getfield 35, 3) := by decide +kernel
theorem dX11_farFrom_16 : decode cX11_farFrom 16 = .ok (.bipush 42, 2) := by decide +kernel
theorem dX11_farFrom_18 : decode cX11_farFrom 18 = .ok (.iload_n 1, 1) := by decide +kernel
theorem dX11_farFrom_19 : decode cX11_farFrom 19 = .ok (.iadd, 1) := by decide +kernel
theorem dX11_farFrom_20 : decode cX11_farFrom 20 = .ok (.iaload, 1) := by decide +kernel
theorem dX11_farFrom_21 : decode cX11_farFrom 21 = .ok (.goto 14, 3) := by decide +kernel
theorem dX11_farFrom_24 : decode cX11_farFrom 24 = .ok (.iconst 1, 1) := by decide +kernel
theorem dX11_farFrom_25 : decode cX11_farFrom 25 = .ok (.aload_n 0, 1) := by decide +kernel
theorem dX11_farFrom_26 : decode cX11_farFrom 26 = .ok (.getfield 35, 3) := by decide +kernel
theorem dX11_farFrom_29 : decode cX11_farFrom 29 = .ok (.bipush 42, 2) := by decide +kernel
theorem dX11_farFrom_31 : decode cX11_farFrom 31 = .ok (.iload_n 1, 1) := by decide +kernel
theorem dX11_farFrom_32 : decode cX11_farFrom 32 = .ok (.iadd, 1) := by decide +kernel
theorem dX11_farFrom_33 : decode cX11_farFrom 33 = .ok (.iaload, 1) := by decide +kernel
theorem dX11_farFrom_34 : decode cX11_farFrom 34 = .ok (.isub, 1) := by decide +kernel
theorem dX11_farFrom_35 : decode cX11_farFrom 35 = .ok (.ireturn, 1) := by decide +kernel
set_option maxRecDepth 20000 in
theorem ggX11_nearest_X11_isSeated : GoodIn wsX11_nearest wsX11_isSeated := goodIn_r _ [8, 3, 9, 10, 7, 11, 20, 21, 22, 23, 24, 25, 26, 27, 28, 29, 30, 31, 32, 33, 34, 35, 36, 37, 38, 39, 40, 41, 42, 43, 44, 45, 46, 47, 48, 49, 50, 51, 52, 53, 54, 55, 56, 57, 58, 59, 60, 61, 62, 63, 64, 65] (by decide +kernel) (by decide +kernel)
set_option maxRecDepth 20000 in
theorem gX11_nearest_X11_isSeated : GoodIn wsX11_nearest (wsV RX11 361 RX11 yX11_isSeated wsX11_isSeated) := goodIn_app (goodIn_of _ (by decide +kernel)) ggX11_nearest_X11_isSeated
set_option maxRecDepth 20000 in
theorem ggX11_nearest_X11_farFrom : GoodIn wsX11_nearest wsX11_farFrom := goodIn_r _ [15, 3, 20, 21, 22, 23, 24, 25, 26, 27, 28, 29, 30, 31, 32, 33, 34, 35, 36, 37, 38, 39, 40, 41, 42, 43, 44, 45, 46, 47, 48, 49, 50, 51, 52, 53, 54, 55, 56, 57, 58, 59, 60, 61, 62, 63, 64, 65] (by decide +kernel) (by decide +kernel)
set_option maxRecDepth 20000 in
theorem gX11_nearest_X11_farFrom : GoodIn wsX11_nearest (wsV RX11 408 RX11 yX11_farFrom wsX11_farFrom) := goodIn_app (goodIn_of _ (by decide +kernel)) ggX11_nearest_X11_farFrom
set_option maxRecDepth 20000 in
theorem ggX11_nearest_X11_refuse : GoodIn wsX11_nearest wsX11_refuse := goodIn_r _ [19, 2, 20, 21, 22, 23, 24, 25, 26, 27, 28, 29, 30, 31, 32, 33, 34, 35, 36, 37, 38, 39, 40, 41, 42, 43, 44, 45, 46, 47, 48, 49, 50, 51, 52, 53, 54, 55, 56, 57, 58, 59, 60, 61, 62, 63, 64, 65] (by decide +kernel) (by decide +kernel)
set_option maxRecDepth 20000 in
theorem gX11_nearest_X11_refuse : GoodIn wsX11_nearest (wsV RX11 340 RX11 yX11_refuse wsX11_refuse) := goodIn_app (goodIn_of _ (by decide +kernel)) ggX11_nearest_X11_refuse
theorem dX11_nearest_0 : decode cX11_nearest 0 = .ok (.aload_n 0, 1) := by decide +kernel
theorem dX11_nearest_1 : decode cX11_nearest 1 = .ok (.iconst 0, 1) := by decide +kernel
theorem dX11_nearest_2 : decode cX11_nearest 2 = .ok (.putfield 71, 3) := by decide +kernel
theorem dX11_nearest_5 : decode cX11_nearest 5 = .ok (.aload_n 0, 1) := by decide +kernel
theorem dX11_nearest_6 : decode cX11_nearest 6 = .ok (.iconst 0, 1) := by decide +kernel
theorem dX11_nearest_7 : decode cX11_nearest 7 = .ok (.putfield 74, 3) := by decide +kernel
theorem dX11_nearest_10 : decode cX11_nearest 10 = .ok (.iconst (-1), 1) := by decide +kernel
theorem dX11_nearest_11 : decode cX11_nearest 11 = .ok (.istore_n 1, 1) := by decide +kernel
theorem dX11_nearest_12 : decode cX11_nearest 12 = .ok (.iconst 0, 1) := by decide +kernel
theorem dX11_nearest_13 : decode cX11_nearest 13 = .ok (.istore_n 2, 1) := by decide +kernel
theorem dX11_nearest_14 : decode cX11_nearest 14 = .ok (.iload_n 2, 1) := by decide +kernel
theorem dX11_nearest_15 : decode cX11_nearest 15 = .ok (.aload_n 0, 1) := by decide +kernel
theorem dX11_nearest_16 : decode cX11_nearest 16 = .ok (.getfield 35, 3) := by decide +kernel
theorem dX11_nearest_19 : decode cX11_nearest 19 = .ok (.iconst 0, 1) := by decide +kernel
theorem dX11_nearest_20 : decode cX11_nearest 20 = .ok (.iaload, 1) := by decide +kernel
theorem dX11_nearest_21 : decode cX11_nearest 21 = .ok (.if_icmp .ge 36, 3) := by decide +kernel
theorem dX11_nearest_24 : decode cX11_nearest 24 = .ok (.aload_n 0, 1) := by decide +kernel
theorem dX11_nearest_25 : decode cX11_nearest 25 = .ok (.iload_n 2, 1) := by decide +kernel
theorem dX11_nearest_26 : decode cX11_nearest 26 = .ok (.invokevirtual 361, 3) := by decide +kernel
theorem dX11_nearest_29 : decode cX11_nearest 29 = .ok (.ifCond .eq 22, 3) := by decide +kernel
theorem dX11_nearest_32 : decode cX11_nearest 32 = .ok (.iload_n 1, 1) := by decide +kernel
theorem dX11_nearest_33 : decode cX11_nearest 33 = .ok (.ifCond .lt 16, 3) := by decide +kernel
theorem dX11_nearest_36 : decode cX11_nearest 36 = .ok (.aload_n 0, 1) := by decide +kernel
theorem dX11_nearest_37 : decode cX11_nearest 37 = .ok (.iload_n 2, 1) := by decide +kernel
theorem dX11_nearest_38 : decode cX11_nearest 38 = .ok (.invokevirtual 408, 3) := by decide +kernel
theorem dX11_nearest_41 : decode cX11_nearest 41 = .ok (.aload_n 0, 1) := by decide +kernel
theorem dX11_nearest_42 : decode cX11_nearest 42 = .ok (.iload_n 1, 1) := by decide +kernel
theorem dX11_nearest_43 : decode cX11_nearest 43 = .ok (.invokevirtual 408, 3) := by decide +kernel
theorem dX11_nearest_46 : decode cX11_nearest 46 = .ok (.if_icmp .ge 5, 3) := by decide +kernel
theorem dX11_nearest_49 : decode cX11_nearest 49 = .ok (.iload_n 2, 1) := by decide +kernel
theorem dX11_nearest_50 : decode cX11_nearest 50 = .ok (.istore_n 1, 1) := by decide +kernel
theorem dX11_nearest_51 : decode cX11_nearest 51 = .ok (.iinc 2 1, 3) := by decide +kernel
theorem dX11_nearest_54 : decode cX11_nearest 54 = .ok (.goto (-40), 3) := by decide +kernel
theorem dX11_nearest_57 : decode cX11_nearest 57 = .ok (.iload_n 1, 1) := by decide +kernel
theorem dX11_nearest_58 : decode cX11_nearest 58 = .ok (.ifCond .ge 12, 3) := by decide +kernel
theorem dX11_nearest_61 : decode cX11_nearest 61 = .ok (.aload_n 0, 1) := by decide +kernel
theorem dX11_nearest_62 : decode cX11_nearest 62 = .ok (.bipush 8, 2) := by decide +kernel
theorem dX11_nearest_64 : decode cX11_nearest 64 = .ok (.invokevirtual 340, 3) := by decide +kernel
theorem dX11_nearest_67 : decode cX11_nearest 67 = .ok (.goto 4, 3) := by decide +kernel
theorem dX11_nearest_70 : decode cX11_nearest 70 = .ok (.iload_n 1, 1) := by decide +kernel
theorem dX11_nearest_71 : decode cX11_nearest 71 = .ok (.ireturn, 1) := by decide +kernel
set_option maxRecDepth 20000 in
theorem ggX11_pull_X11_isJurorAt : GoodIn wsX11_pull wsX11_isJurorAt := goodIn_r _ [8, 3, 9, 10, 7, 11, 40, 41, 42, 43, 44, 45, 46, 47, 48, 49, 50, 51, 52, 53, 54, 55, 56, 57, 58, 59, 60, 61, 62, 63, 64, 65, 66, 67, 68, 69, 70, 71, 72, 73, 74, 75, 76, 77, 78, 79, 80, 81, 82, 83, 84, 85] (by decide +kernel) (by decide +kernel)
set_option maxRecDepth 20000 in
theorem gX11_pull_X11_isJurorAt : GoodIn wsX11_pull (wsV RX11 343 RX11 yX11_isJurorAt wsX11_isJurorAt) := goodIn_app (goodIn_of _ (by decide +kernel)) ggX11_pull_X11_isJurorAt
set_option maxRecDepth 20000 in
theorem ggX11_pull_X11_refuse : GoodIn wsX11_pull wsX11_refuse := goodIn_r _ [15, 2, 40, 41, 42, 43, 44, 45, 46, 47, 48, 49, 50, 51, 52, 53, 54, 55, 56, 57, 58, 59, 60, 61, 62, 63, 64, 65, 66, 67, 68, 69, 70, 71, 72, 73, 74, 75, 76, 77, 78, 79, 80, 81, 82, 83, 84, 85] (by decide +kernel) (by decide +kernel)
set_option maxRecDepth 20000 in
theorem gX11_pull_X11_refuse : GoodIn wsX11_pull (wsV RX11 340 RX11 yX11_refuse wsX11_refuse) := goodIn_app (goodIn_of _ (by decide +kernel)) ggX11_pull_X11_refuse
set_option maxRecDepth 20000 in
theorem ggX11_pull_X11_isSeated : GoodIn wsX11_pull wsX11_isSeated := goodIn_r _ [19, 3, 20, 21, 7, 22, 40, 41, 42, 43, 44, 45, 46, 47, 48, 49, 50, 51, 52, 53, 54, 55, 56, 57, 58, 59, 60, 61, 62, 63, 64, 65, 66, 67, 68, 69, 70, 71, 72, 73, 74, 75, 76, 77, 78, 79, 80, 81, 82, 83, 84, 85] (by decide +kernel) (by decide +kernel)
set_option maxRecDepth 20000 in
theorem gX11_pull_X11_isSeated : GoodIn wsX11_pull (wsV RX11 361 RX11 yX11_isSeated wsX11_isSeated) := goodIn_app (goodIn_of _ (by decide +kernel)) ggX11_pull_X11_isSeated
set_option maxRecDepth 20000 in
theorem ggX11_pull_X11_pulled : GoodIn wsX11_pull wsX11_pulled := goodIn_r _ [26, 3, 27, 28, 29, 30, 16, 17, 18, 7, 19, 20, 21, 22, 31, 32, 33, 34, 35, 36, 37, 38, 39, 40, 41, 42, 43, 44, 45, 46, 47, 48, 49, 50, 51, 52, 53, 54, 55, 56, 57, 58, 59, 60, 61, 62, 63, 64, 65, 66, 67, 68, 69, 70, 71, 72, 73, 74, 75, 76, 77, 78, 79, 80, 81, 82, 83, 84, 85] (by decide +kernel) (by decide +kernel)
set_option maxRecDepth 20000 in
theorem gX11_pull_X11_pulled : GoodIn wsX11_pull (wsV RX11 371 RX11 yX11_pulled wsX11_pulled) := goodIn_app (goodIn_of _ (by decide +kernel)) ggX11_pull_X11_pulled
theorem dX11_pull_0 : decode cX11_pull 0 = .ok (.aload_n 0, 1) := by decide +kernel
theorem dX11_pull_1 : decode cX11_pull 1 = .ok (.iconst 0, 1) := by decide +kernel
theorem dX11_pull_2 : decode cX11_pull 2 = .ok (.putfield 71, 3) := by decide +kernel
theorem dX11_pull_5 : decode cX11_pull 5 = .ok (.aload_n 0, 1) := by decide +kernel
theorem dX11_pull_6 : decode cX11_pull 6 = .ok (.iconst 0, 1) := by decide +kernel
theorem dX11_pull_7 : decode cX11_pull 7 = .ok (.putfield 74, 3) := by decide +kernel
theorem dX11_pull_10 : decode cX11_pull 10 = .ok (.aload_n 0, 1) := by decide +kernel
theorem dX11_pull_11 : decode cX11_pull 11 = .ok (.iload_n 1, 1) := by decide +kernel
theorem dX11_pull_12 : decode cX11_pull 12 = .ok (.invokevirtual 343, 3) := by decide +kernel
theorem dX11_pull_15 : decode cX11_pull 15 = .ok (.ifCond .ne 9, 3) := by decide +kernel
theorem dX11_pull_18 : decode cX11_pull 18 = .ok (.aload_n 0, 1) := by decide +kernel
theorem dX11_pull_19 : decode cX11_pull 19 = .ok (.iconst 2, 1) := by decide +kernel
theorem dX11_pull_20 : decode cX11_pull 20 = .ok (.invokevirtual 340, 3) := by decide +kernel
theorem dX11_pull_23 : decode cX11_pull 23 = .ok (.ireturn, 1) := by decide +kernel
theorem dX11_pull_24 : decode cX11_pull 24 = .ok (.aload_n 0, 1) := by decide +kernel
theorem dX11_pull_25 : decode cX11_pull 25 = .ok (.iload_n 1, 1) := by decide +kernel
theorem dX11_pull_26 : decode cX11_pull 26 = .ok (.invokevirtual 361, 3) := by decide +kernel
theorem dX11_pull_29 : decode cX11_pull 29 = .ok (.ifCond .eq 21, 3) := by decide +kernel
theorem dX11_pull_32 : decode cX11_pull 32 = .ok (.aload_n 0, 1) := by decide +kernel
theorem dX11_pull_33 : decode cX11_pull 33 = .ok (.iload_n 1, 1) := by decide +kernel
theorem dX11_pull_34 : decode cX11_pull 34 = .ok (.invokevirtual 371, 3) := by decide +kernel
theorem dX11_pull_37 : decode cX11_pull 37 = .ok (.aload_n 0, 1) := by decide +kernel
theorem dX11_pull_38 : decode cX11_pull 38 = .ok (.getfield 35, 3) := by decide +kernel
theorem dX11_pull_41 : decode cX11_pull 41 = .ok (.bipush 42, 2) := by decide +kernel
theorem dX11_pull_43 : decode cX11_pull 43 = .ok (.iload_n 1, 1) := by decide +kernel
theorem dX11_pull_44 : decode cX11_pull 44 = .ok (.iadd, 1) := by decide +kernel
theorem dX11_pull_45 : decode cX11_pull 45 = .ok (.iaload, 1) := by decide +kernel
theorem dX11_pull_46 : decode cX11_pull 46 = .ok (.isub, 1) := by decide +kernel
theorem dX11_pull_47 : decode cX11_pull 47 = .ok (.goto 9, 3) := by decide +kernel
theorem dX11_pull_50 : decode cX11_pull 50 = .ok (.aload_n 0, 1) := by decide +kernel
theorem dX11_pull_51 : decode cX11_pull 51 = .ok (.bipush 9, 2) := by decide +kernel
theorem dX11_pull_53 : decode cX11_pull 53 = .ok (.invokevirtual 340, 3) := by decide +kernel
theorem dX11_pull_56 : decode cX11_pull 56 = .ok (.ireturn, 1) := by decide +kernel
set_option maxRecDepth 20000 in
theorem ggX11_behind_X11_isJurorAt : GoodIn wsX11_behind wsX11_isJurorAt := goodIn_r _ [8, 3, 9, 10, 7, 11, 19, 20, 21, 22, 23, 24, 25, 26, 27, 28, 29, 30, 31, 32, 33, 34, 35, 36, 37, 38, 39, 40, 41, 42, 43, 44, 45, 46, 47, 48, 49, 50, 51, 52, 53, 54, 55, 56, 57, 58, 59, 60, 61, 62, 63, 64] (by decide +kernel) (by decide +kernel)
set_option maxRecDepth 20000 in
theorem gX11_behind_X11_isJurorAt : GoodIn wsX11_behind (wsV RX11 343 RX11 yX11_isJurorAt wsX11_isJurorAt) := goodIn_app (goodIn_of _ (by decide +kernel)) ggX11_behind_X11_isJurorAt
set_option maxRecDepth 20000 in
theorem ggX11_behind_X11_refuse : GoodIn wsX11_behind wsX11_refuse := goodIn_r _ [15, 2, 19, 20, 21, 22, 23, 24, 25, 26, 27, 28, 29, 30, 31, 32, 33, 34, 35, 36, 37, 38, 39, 40, 41, 42, 43, 44, 45, 46, 47, 48, 49, 50, 51, 52, 53, 54, 55, 56, 57, 58, 59, 60, 61, 62, 63, 64] (by decide +kernel) (by decide +kernel)
set_option maxRecDepth 20000 in
theorem gX11_behind_X11_refuse : GoodIn wsX11_behind (wsV RX11 340 RX11 yX11_refuse wsX11_refuse) := goodIn_app (goodIn_of _ (by decide +kernel)) ggX11_behind_X11_refuse
set_option maxRecDepth 20000 in
theorem ggX11_behind_X11_has : GoodIn wsX11_behind wsX11_has := goodIn_r _ [18] (by decide +kernel) (by decide +kernel)
set_option maxRecDepth 20000 in
theorem gX11_behind_X11_has : GoodIn wsX11_behind (va_wsS RX11 110 yX11_has wsX11_has) := goodIn_app (goodIn_of _ (by decide +kernel)) ggX11_behind_X11_has
theorem dX11_behind_0 : decode cX11_behind 0 = .ok (.aload_n 0, 1) := by decide +kernel
theorem dX11_behind_1 : decode cX11_behind 1 = .ok (.iconst 0, 1) := by decide +kernel
theorem dX11_behind_2 : decode cX11_behind 2 = .ok (.putfield 71, 3) := by decide +kernel
theorem dX11_behind_5 : decode cX11_behind 5 = .ok (.aload_n 0, 1) := by decide +kernel
theorem dX11_behind_6 : decode cX11_behind 6 = .ok (.iconst 0, 1) := by decide +kernel
theorem dX11_behind_7 : decode cX11_behind 7 = .ok (.putfield 74, 3) := by decide +kernel
theorem dX11_behind_10 : decode cX11_behind 10 = .ok (.aload_n 0, 1) := by decide +kernel
theorem dX11_behind_11 : decode cX11_behind 11 = .ok (.iload_n 1, 1) := by decide +kernel
theorem dX11_behind_12 : decode cX11_behind 12 = .ok (.invokevirtual 343, 3) := by decide +kernel
theorem dX11_behind_15 : decode cX11_behind 15 = .ok (.ifCond .ne 9, 3) := by decide +kernel
theorem dX11_behind_18 : decode cX11_behind 18 = .ok (.aload_n 0, 1) := by decide +kernel
theorem dX11_behind_19 : decode cX11_behind 19 = .ok (.iconst 2, 1) := by decide +kernel
theorem dX11_behind_20 : decode cX11_behind 20 = .ok (.invokevirtual 340, 3) := by decide +kernel
theorem dX11_behind_23 : decode cX11_behind 23 = .ok (.ireturn, 1) := by decide +kernel
theorem dX11_behind_24 : decode cX11_behind 24 = .ok (.iconst 0, 1) := by decide +kernel
theorem dX11_behind_25 : decode cX11_behind 25 = .ok (.istore_n 2, 1) := by decide +kernel
theorem dX11_behind_26 : decode cX11_behind 26 = .ok (.iconst 1, 1) := by decide +kernel
theorem dX11_behind_27 : decode cX11_behind 27 = .ok (.iload_n 1, 1) := by decide +kernel
theorem dX11_behind_28 : decode cX11_behind 28 = .ok (.ishl, 1) := by decide +kernel
theorem dX11_behind_29 : decode cX11_behind 29 = .ok (.istore_n 3, 1) := by decide +kernel
theorem dX11_behind_30 : decode cX11_behind 30 = .ok (.iload_n 3, 1) := by decide +kernel
theorem dX11_behind_31 : decode cX11_behind 31 = .ok (.iload_n 2, 1) := by decide +kernel
theorem dX11_behind_32 : decode cX11_behind 32 = .ok (.if_icmp .eq 90, 3) := by decide +kernel
theorem dX11_behind_35 : decode cX11_behind 35 = .ok (.iload_n 3, 1) := by decide +kernel
theorem dX11_behind_36 : decode cX11_behind 36 = .ok (.istore_n 2, 1) := by decide +kernel
theorem dX11_behind_37 : decode cX11_behind 37 = .ok (.iconst 0, 1) := by decide +kernel
theorem dX11_behind_38 : decode cX11_behind 38 = .ok (.istore 4, 2) := by decide +kernel
theorem dX11_behind_40 : decode cX11_behind 40 = .ok (.iload 4, 2) := by decide +kernel
theorem dX11_behind_42 : decode cX11_behind 42 = .ok (.aload_n 0, 1) := by decide +kernel
theorem dX11_behind_43 : decode cX11_behind 43 = .ok (.getfield 35, 3) := by decide +kernel
theorem dX11_behind_46 : decode cX11_behind 46 = .ok (.iconst 0, 1) := by decide +kernel
theorem dX11_behind_47 : decode cX11_behind 47 = .ok (.iaload, 1) := by decide +kernel
theorem dX11_behind_48 : decode cX11_behind 48 = .ok (.if_icmp .ge 71, 3) := by decide +kernel
theorem dX11_behind_51 : decode cX11_behind 51 = .ok (.iconst 0, 1) := by decide +kernel
theorem dX11_behind_52 : decode cX11_behind 52 = .ok (.istore 5, 2) := by decide +kernel
theorem dX11_behind_54 : decode cX11_behind 54 = .ok (.iload 5, 2) := by decide +kernel
theorem dX11_behind_56 : decode cX11_behind 56 = .ok (.aload_n 0, 1) := by decide +kernel
theorem dX11_behind_57 : decode cX11_behind 57 = .ok (.getfield 35, 3) := by decide +kernel
theorem dX11_behind_60 : decode cX11_behind 60 = .ok (.iconst 0, 1) := by decide +kernel
theorem dX11_behind_61 : decode cX11_behind 61 = .ok (.iaload, 1) := by decide +kernel
theorem dX11_behind_62 : decode cX11_behind 62 = .ok (.if_icmp .ge 51, 3) := by decide +kernel
theorem dX11_behind_65 : decode cX11_behind 65 = .ok (.iload 4, 2) := by decide +kernel
theorem dX11_behind_67 : decode cX11_behind 67 = .ok (.iload 5, 2) := by decide +kernel
theorem dX11_behind_69 : decode cX11_behind 69 = .ok (.if_icmp .eq 38, 3) := by decide +kernel
theorem dX11_behind_72 : decode cX11_behind 72 = .ok (.iload_n 2, 1) := by decide +kernel
theorem dX11_behind_73 : decode cX11_behind 73 = .ok (.iload 5, 2) := by decide +kernel
theorem dX11_behind_75 : decode cX11_behind 75 = .ok (.invokestatic 110, 3) := by decide +kernel
theorem dX11_behind_78 : decode cX11_behind 78 = .ok (.ifCond .eq 29, 3) := by decide +kernel
theorem dX11_behind_81 : decode cX11_behind 81 = .ok (.aload_n 0, 1) := by decide +kernel
theorem dX11_behind_82 : decode cX11_behind 82 = .ok (.getfield 35, 3) := by decide +kernel
theorem dX11_behind_85 : decode cX11_behind 85 = .ok (.bipush 52, 2) := by decide +kernel
theorem dX11_behind_87 : decode cX11_behind 87 = .ok (.bipush 10, 2) := by decide +kernel
theorem dX11_behind_89 : decode cX11_behind 89 = .ok (.iload 4, 2) := by decide +kernel
theorem dX11_behind_91 : decode cX11_behind 91 = .ok (.imul, 1) := by decide +kernel
theorem dX11_behind_92 : decode cX11_behind 92 = .ok (.iadd, 1) := by decide +kernel
theorem dX11_behind_93 : decode cX11_behind 93 = .ok (.iload 5, 2) := by decide +kernel
theorem dX11_behind_95 : decode cX11_behind 95 = .ok (.iadd, 1) := by decide +kernel
theorem dX11_behind_96 : decode cX11_behind 96 = .ok (.iaload, 1) := by decide +kernel
theorem dX11_behind_97 : decode cX11_behind 97 = .ok (.ifCond .le 10, 3) := by decide +kernel
theorem dX11_behind_100 : decode cX11_behind 100 = .ok (.iload_n 3, 1) := by decide +kernel
theorem dX11_behind_101 : decode cX11_behind 101 = .ok (.iconst 1, 1) := by decide +kernel
theorem dX11_behind_102 : decode cX11_behind 102 = .ok (.iload 4, 2) := by decide +kernel
theorem dX11_behind_104 : decode cX11_behind 104 = .ok (.ishl, 1) := by decide +kernel
theorem dX11_behind_105 : decode cX11_behind 105 = .ok (.ior, 1) := by decide +kernel
theorem dX11_behind_106 : decode cX11_behind 106 = .ok (.istore_n 3, 1) := by decide +kernel
theorem dX11_behind_107 : decode cX11_behind 107 = .ok (.iinc 5 1, 3) := by decide +kernel
theorem dX11_behind_110 : decode cX11_behind 110 = .ok (.goto (-56), 3) := by decide +kernel
theorem dX11_behind_113 : decode cX11_behind 113 = .ok (.iinc 4 1, 3) := by decide +kernel
theorem dX11_behind_116 : decode cX11_behind 116 = .ok (.goto (-76), 3) := by decide +kernel
theorem dX11_behind_119 : decode cX11_behind 119 = .ok (.goto (-89), 3) := by decide +kernel
theorem dX11_behind_122 : decode cX11_behind 122 = .ok (.iload_n 2, 1) := by decide +kernel
theorem dX11_behind_123 : decode cX11_behind 123 = .ok (.iconst 1, 1) := by decide +kernel
theorem dX11_behind_124 : decode cX11_behind 124 = .ok (.iload_n 1, 1) := by decide +kernel
theorem dX11_behind_125 : decode cX11_behind 125 = .ok (.ishl, 1) := by decide +kernel
theorem dX11_behind_126 : decode cX11_behind 126 = .ok (.iconst (-1), 1) := by decide +kernel
theorem dX11_behind_127 : decode cX11_behind 127 = .ok (.ixor, 1) := by decide +kernel
theorem dX11_behind_128 : decode cX11_behind 128 = .ok (.iand, 1) := by decide +kernel
theorem dX11_behind_129 : decode cX11_behind 129 = .ok (.ireturn, 1) := by decide +kernel
theorem dX11_keeps_0 : decode cX11_keeps 0 = .ok (.iconst 0, 1) := by decide +kernel
theorem dX11_keeps_1 : decode cX11_keeps 1 = .ok (.istore_n 1, 1) := by decide +kernel
theorem dX11_keeps_2 : decode cX11_keeps 2 = .ok (.iload_n 1, 1) := by decide +kernel
theorem dX11_keeps_3 : decode cX11_keeps 3 = .ok (.sipush 198, 3) := by decide +kernel
theorem dX11_keeps_6 : decode cX11_keeps 6 = .ok (.if_icmp .ge 21, 3) := by decide +kernel
theorem dX11_keeps_9 : decode cX11_keeps 9 = .ok (.aload_n 0, 1) := by decide +kernel
theorem dX11_keeps_10 : decode cX11_keeps 10 = .ok (.getfield 38, 3) := by decide +kernel
theorem dX11_keeps_13 : decode cX11_keeps 13 = .ok (.iload_n 1, 1) := by decide +kernel
theorem dX11_keeps_14 : decode cX11_keeps 14 = .ok (.aload_n 0, 1) := by decide +kernel
theorem dX11_keeps_15 : decode cX11_keeps 15 = .ok (.getfield 35, 3) := by decide +kernel
theorem dX11_keeps_18 : decode cX11_keeps 18 = .ok (.iload_n 1, 1) := by decide +kernel
theorem dX11_keeps_19 : decode cX11_keeps 19 = .ok (.iaload, 1) := by decide +kernel
theorem dX11_keeps_20 : decode cX11_keeps 20 = .ok (.iastore, 1) := by decide +kernel
theorem dX11_keeps_21 : decode cX11_keeps 21 = .ok (.iinc 1 1, 3) := by decide +kernel
theorem dX11_keeps_24 : decode cX11_keeps 24 = .ok (.goto (-22), 3) := by decide +kernel
theorem dX11_keeps_27 : decode cX11_keeps 27 = .ok (.return_, 1) := by decide +kernel
theorem dX11_gives_0 : decode cX11_gives 0 = .ok (.iconst 0, 1) := by decide +kernel
theorem dX11_gives_1 : decode cX11_gives 1 = .ok (.istore_n 1, 1) := by decide +kernel
theorem dX11_gives_2 : decode cX11_gives 2 = .ok (.iload_n 1, 1) := by decide +kernel
theorem dX11_gives_3 : decode cX11_gives 3 = .ok (.sipush 198, 3) := by decide +kernel
theorem dX11_gives_6 : decode cX11_gives 6 = .ok (.if_icmp .ge 21, 3) := by decide +kernel
theorem dX11_gives_9 : decode cX11_gives 9 = .ok (.aload_n 0, 1) := by decide +kernel
theorem dX11_gives_10 : decode cX11_gives 10 = .ok (.getfield 35, 3) := by decide +kernel
theorem dX11_gives_13 : decode cX11_gives 13 = .ok (.iload_n 1, 1) := by decide +kernel
theorem dX11_gives_14 : decode cX11_gives 14 = .ok (.aload_n 0, 1) := by decide +kernel
theorem dX11_gives_15 : decode cX11_gives 15 = .ok (.getfield 38, 3) := by decide +kernel
theorem dX11_gives_18 : decode cX11_gives 18 = .ok (.iload_n 1, 1) := by decide +kernel
theorem dX11_gives_19 : decode cX11_gives 19 = .ok (.iaload, 1) := by decide +kernel
theorem dX11_gives_20 : decode cX11_gives 20 = .ok (.iastore, 1) := by decide +kernel
theorem dX11_gives_21 : decode cX11_gives 21 = .ok (.iinc 1 1, 3) := by decide +kernel
theorem dX11_gives_24 : decode cX11_gives 24 = .ok (.goto (-22), 3) := by decide +kernel
theorem dX11_gives_27 : decode cX11_gives 27 = .ok (.return_, 1) := by decide +kernel
theorem dX11_cameBefore_0 : decode cX11_cameBefore 0 = .ok (.iconst 0, 1) := by decide +kernel
theorem dX11_cameBefore_1 : decode cX11_cameBefore 1 = .ok (.istore_n 2, 1) := by decide +kernel
theorem dX11_cameBefore_2 : decode cX11_cameBefore 2 = .ok (.iload_n 2, 1) := by decide +kernel
theorem dX11_cameBefore_3 : decode cX11_cameBefore 3 = .ok (.iload_n 1, 1) := by decide +kernel
theorem dX11_cameBefore_4 : decode cX11_cameBefore 4 = .ok (.if_icmp .ge 72, 3) := by decide +kernel
theorem dX11_cameBefore_7 : decode cX11_cameBefore 7 = .ok (.iconst 1, 1) := by decide +kernel
theorem dX11_cameBefore_8 : decode cX11_cameBefore 8 = .ok (.istore_n 3, 1) := by decide +kernel
theorem dX11_cameBefore_9 : decode cX11_cameBefore 9 = .ok (.iconst 0, 1) := by decide +kernel
theorem dX11_cameBefore_10 : decode cX11_cameBefore 10 = .ok (.istore 4, 2) := by decide +kernel
theorem dX11_cameBefore_12 : decode cX11_cameBefore 12 = .ok (.iload 4, 2) := by decide +kernel
theorem dX11_cameBefore_14 : decode cX11_cameBefore 14 = .ok (.aload_n 0, 1) := by decide +kernel
theorem dX11_cameBefore_15 : decode cX11_cameBefore 15 = .ok (.getfield 35, 3) := by decide +kernel
theorem dX11_cameBefore_18 : decode cX11_cameBefore 18 = .ok (.iconst 0, 1) := by decide +kernel
theorem dX11_cameBefore_19 : decode cX11_cameBefore 19 = .ok (.iaload, 1) := by decide +kernel
theorem dX11_cameBefore_20 : decode cX11_cameBefore 20 = .ok (.if_icmp .ge 44, 3) := by decide +kernel
theorem dX11_cameBefore_23 : decode cX11_cameBefore 23 = .ok (.iload_n 3, 1) := by decide +kernel
theorem dX11_cameBefore_24 : decode cX11_cameBefore 24 = .ok (.ifCond .eq 40, 3) := by decide +kernel
theorem dX11_cameBefore_27 : decode cX11_cameBefore 27 = .ok (.aload_n 0, 1) := by decide +kernel
theorem dX11_cameBefore_28 : decode cX11_cameBefore 28 = .ok (.getfield 44, 3) := by decide +kernel
theorem dX11_cameBefore_31 : decode cX11_cameBefore 31 = .ok (.bipush 10, 2) := by decide +kernel
theorem dX11_cameBefore_33 : decode cX11_cameBefore 33 = .ok (.iload_n 2, 1) := by decide +kernel
theorem dX11_cameBefore_34 : decode cX11_cameBefore 34 = .ok (.imul, 1) := by decide +kernel
theorem dX11_cameBefore_35 : decode cX11_cameBefore 35 = .ok (.iload 4, 2) := by decide +kernel
theorem dX11_cameBefore_37 : decode cX11_cameBefore 37 = .ok (.iadd, 1) := by decide +kernel
theorem dX11_cameBefore_38 : decode cX11_cameBefore 38 = .ok (.iaload, 1) := by decide +kernel
theorem dX11_cameBefore_39 : decode cX11_cameBefore 39 = .ok (.aload_n 0, 1) := by decide +kernel
theorem dX11_cameBefore_40 : decode cX11_cameBefore 40 = .ok (.getfield 35, 3) := by decide +kernel
theorem dX11_cameBefore_43 : decode cX11_cameBefore 43 = .ok (.bipush 42, 2) := by decide +kernel
theorem dX11_cameBefore_45 : decode cX11_cameBefore 45 = .ok (.iload 4, 2) := by decide +kernel
theorem dX11_cameBefore_47 : decode cX11_cameBefore 47 = .ok (.iadd, 1) := by decide +kernel
theorem dX11_cameBefore_48 : decode cX11_cameBefore 48 = .ok (.iaload, 1) := by decide +kernel
theorem dX11_cameBefore_49 : decode cX11_cameBefore 49 = .ok (.if_icmp .ne 7, 3) := by decide +kernel
theorem dX11_cameBefore_52 : decode cX11_cameBefore 52 = .ok (.iconst 1, 1) := by decide +kernel
theorem dX11_cameBefore_53 : decode cX11_cameBefore 53 = .ok (.goto 4, 3) := by decide +kernel
theorem dX11_cameBefore_56 : decode cX11_cameBefore 56 = .ok (.iconst 0, 1) := by decide +kernel
theorem dX11_cameBefore_57 : decode cX11_cameBefore 57 = .ok (.istore_n 3, 1) := by decide +kernel
theorem dX11_cameBefore_58 : decode cX11_cameBefore 58 = .ok (.iinc 4 1, 3) := by decide +kernel
theorem dX11_cameBefore_61 : decode cX11_cameBefore 61 = .ok (.goto (-49), 3) := by decide +kernel
theorem dX11_cameBefore_64 : decode cX11_cameBefore 64 = .ok (.iload_n 3, 1) := by decide +kernel
theorem dX11_cameBefore_65 : decode cX11_cameBefore 65 = .ok (.ifCond .eq 5, 3) := by decide +kernel
theorem dX11_cameBefore_68 : decode cX11_cameBefore 68 = .ok (.iload_n 2, 1) := by decide +kernel
theorem dX11_cameBefore_69 : decode cX11_cameBefore 69 = .ok (.ireturn, 1) := by decide +kernel
theorem dX11_cameBefore_70 : decode cX11_cameBefore 70 = .ok (.iinc 2 1, 3) := by decide +kernel
theorem dX11_cameBefore_73 : decode cX11_cameBefore 73 = .ok (.goto (-71), 3) := by decide +kernel
theorem dX11_cameBefore_76 : decode cX11_cameBefore 76 = .ok (.iconst (-1), 1) := by decide +kernel
theorem dX11_cameBefore_77 : decode cX11_cameBefore 77 = .ok (.ireturn, 1) := by decide +kernel
set_option maxRecDepth 20000 in
theorem ggX11_settles_X11_isIn : GoodIn wsX11_settles wsX11_isIn := goodIn_r _ [8] (by decide +kernel) (by decide +kernel)
set_option maxRecDepth 20000 in
theorem gX11_settles_X11_isIn : GoodIn wsX11_settles (va_wsS RX11 106 yX11_isIn wsX11_isIn) := goodIn_app (goodIn_of _ (by decide +kernel)) ggX11_settles_X11_isIn
set_option maxRecDepth 20000 in
theorem ggX11_settles_X11_refuse : GoodIn wsX11_settles wsX11_refuse := goodIn_r _ [12, 2, 58, 59, 60, 61, 62, 63, 64, 65, 66, 67, 68, 69, 70, 71, 72, 73, 74, 75, 76, 77, 78, 79, 80, 81, 82, 83, 84, 85, 86, 87, 88, 89, 90, 91, 92, 93, 94, 95, 96, 97, 98, 99, 100, 101, 102, 103] (by decide +kernel) (by decide +kernel)
set_option maxRecDepth 20000 in
theorem gX11_settles_X11_refuse : GoodIn wsX11_settles (wsV RX11 340 RX11 yX11_refuse wsX11_refuse) := goodIn_app (goodIn_of _ (by decide +kernel)) ggX11_settles_X11_refuse
set_option maxRecDepth 20000 in
theorem ggX11_settles_X11_keeps : GoodIn wsX11_settles wsX11_keeps := goodIn_r _ [16, 17, 3, 58, 59, 60, 61, 62, 63, 64, 65, 66, 67, 68, 69, 70, 71, 72, 73, 74, 75, 76, 77, 78, 79, 80, 81, 82, 83, 84, 85, 86, 87, 88, 89, 90, 91, 92, 93, 94, 95, 96, 97, 98, 99, 100, 101, 102, 103] (by decide +kernel) (by decide +kernel)
set_option maxRecDepth 20000 in
theorem gX11_settles_X11_keeps : GoodIn wsX11_settles (wsV RX11 411 RX11 yX11_keeps wsX11_keeps) := goodIn_app (goodIn_of _ (by decide +kernel)) ggX11_settles_X11_keeps
set_option maxRecDepth 20000 in
theorem ggX11_settles_X11_talks : GoodIn wsX11_settles wsX11_talks := goodIn_r _ [21, 3, 22, 23, 24, 7, 25, 26, 27, 28, 29, 30, 31, 32, 33, 34, 35, 36, 37, 38, 39, 40, 41, 42, 43, 44, 45, 46, 47, 48, 49, 58, 59, 60, 61, 62, 63, 64, 65, 66, 67, 68, 69, 70, 71, 72, 73, 74, 75, 76, 77, 78, 79, 80, 81, 82, 83, 84, 85, 86, 87, 88, 89, 90, 91, 92, 93, 94, 95, 96, 97, 98, 99, 100, 101, 102, 103] (by decide +kernel) (by decide +kernel)
set_option maxRecDepth 20000 in
theorem gX11_settles_X11_talks : GoodIn wsX11_settles (wsV RX11 377 RX11 yX11_talks wsX11_talks) := goodIn_app (goodIn_of _ (by decide +kernel)) ggX11_settles_X11_talks
set_option maxRecDepth 20000 in
theorem ggX11_settles_X11_cameBefore : GoodIn wsX11_settles wsX11_cameBefore := goodIn_r _ [53, 3, 4, 58, 59, 60, 61, 62, 63, 64, 65, 66, 67, 68, 69, 70, 71, 72, 73, 74, 75, 76, 77, 78, 79, 80, 81, 82, 83, 84, 85, 86, 87, 88, 89, 90, 91, 92, 93, 94, 95, 96, 97, 98, 99, 100, 101, 102, 103] (by decide +kernel) (by decide +kernel)
set_option maxRecDepth 20000 in
theorem gX11_settles_X11_cameBefore : GoodIn wsX11_settles (wsV RX11 414 RX11 yX11_cameBefore wsX11_cameBefore) := goodIn_app (goodIn_of _ (by decide +kernel)) ggX11_settles_X11_cameBefore
set_option maxRecDepth 20000 in
theorem ggX11_settles_X11_gives : GoodIn wsX11_settles wsX11_gives := goodIn_r _ [57, 3, 17, 58, 59, 60, 61, 62, 63, 64, 65, 66, 67, 68, 69, 70, 71, 72, 73, 74, 75, 76, 77, 78, 79, 80, 81, 82, 83, 84, 85, 86, 87, 88, 89, 90, 91, 92, 93, 94, 95, 96, 97, 98, 99, 100, 101, 102, 103] (by decide +kernel) (by decide +kernel)
set_option maxRecDepth 20000 in
theorem gX11_settles_X11_gives : GoodIn wsX11_settles (wsV RX11 417 RX11 yX11_gives wsX11_gives) := goodIn_app (goodIn_of _ (by decide +kernel)) ggX11_settles_X11_gives
theorem dX11_settles_0 : decode cX11_settles 0 = .ok (.aload_n 0, 1) := by decide +kernel
theorem dX11_settles_1 : decode cX11_settles 1 = .ok (.iconst 0, 1) := by decide +kernel
theorem dX11_settles_2 : decode cX11_settles 2 = .ok (.putfield 71, 3) := by decide +kernel
theorem dX11_settles_5 : decode cX11_settles 5 = .ok (.aload_n 0, 1) := by decide +kernel
theorem dX11_settles_6 : decode cX11_settles 6 = .ok (.iconst 0, 1) := by decide +kernel
theorem dX11_settles_7 : decode cX11_settles 7 = .ok (.putfield 74, 3) := by decide +kernel
theorem dX11_settles_10 : decode cX11_settles 10 = .ok (.iload_n 1, 1) := by decide +kernel
theorem dX11_settles_11 : decode cX11_settles 11 = .ok (.i2l, 1) := by decide +kernel
theorem dX11_settles_12 : decode cX11_settles 12 = .ok (.lconst 0, 1) := by decide +kernel
theorem dX11_settles_13 : decode cX11_settles 13 = .ok (.lconst 1, 1) := by decide +kernel
theorem dX11_settles_14 : decode cX11_settles 14 = .ok (.invokestatic 106, 3) := by decide +kernel
theorem dX11_settles_17 : decode cX11_settles 17 = .ok (.ifCond .ne 9, 3) := by decide +kernel
theorem dX11_settles_20 : decode cX11_settles 20 = .ok (.aload_n 0, 1) := by decide +kernel
theorem dX11_settles_21 : decode cX11_settles 21 = .ok (.iconst 5, 1) := by decide +kernel
theorem dX11_settles_22 : decode cX11_settles 22 = .ok (.invokevirtual 340, 3) := by decide +kernel
theorem dX11_settles_25 : decode cX11_settles 25 = .ok (.ireturn, 1) := by decide +kernel
theorem dX11_settles_26 : decode cX11_settles 26 = .ok (.aload_n 0, 1) := by decide +kernel
theorem dX11_settles_27 : decode cX11_settles 27 = .ok (.invokevirtual 411, 3) := by decide +kernel
theorem dX11_settles_30 : decode cX11_settles 30 = .ok (.iconst (-1), 1) := by decide +kernel
theorem dX11_settles_31 : decode cX11_settles 31 = .ok (.istore_n 2, 1) := by decide +kernel
theorem dX11_settles_32 : decode cX11_settles 32 = .ok (.iconst 0, 1) := by decide +kernel
theorem dX11_settles_33 : decode cX11_settles 33 = .ok (.istore_n 3, 1) := by decide +kernel
theorem dX11_settles_34 : decode cX11_settles 34 = .ok (.iload_n 2, 1) := by decide +kernel
theorem dX11_settles_35 : decode cX11_settles 35 = .ok (.ifCond .ge 76, 3) := by decide +kernel
theorem dX11_settles_38 : decode cX11_settles 38 = .ok (.iload_n 3, 1) := by decide +kernel
theorem dX11_settles_39 : decode cX11_settles 39 = .ok (.sipush 200, 3) := by decide +kernel
theorem dX11_settles_42 : decode cX11_settles 42 = .ok (.if_icmp .gt 69, 3) := by decide +kernel
theorem dX11_settles_45 : decode cX11_settles 45 = .ok (.iconst 0, 1) := by decide +kernel
theorem dX11_settles_46 : decode cX11_settles 46 = .ok (.istore 4, 2) := by decide +kernel
theorem dX11_settles_48 : decode cX11_settles 48 = .ok (.iload 4, 2) := by decide +kernel
theorem dX11_settles_50 : decode cX11_settles 50 = .ok (.aload_n 0, 1) := by decide +kernel
theorem dX11_settles_51 : decode cX11_settles 51 = .ok (.getfield 35, 3) := by decide +kernel
theorem dX11_settles_54 : decode cX11_settles 54 = .ok (.iconst 0, 1) := by decide +kernel
theorem dX11_settles_55 : decode cX11_settles 55 = .ok (.iaload, 1) := by decide +kernel
theorem dX11_settles_56 : decode cX11_settles 56 = .ok (.if_icmp .ge 31, 3) := by decide +kernel
theorem dX11_settles_59 : decode cX11_settles 59 = .ok (.aload_n 0, 1) := by decide +kernel
theorem dX11_settles_60 : decode cX11_settles 60 = .ok (.getfield 44, 3) := by decide +kernel
theorem dX11_settles_63 : decode cX11_settles 63 = .ok (.bipush 10, 2) := by decide +kernel
theorem dX11_settles_65 : decode cX11_settles 65 = .ok (.iload_n 3, 1) := by decide +kernel
theorem dX11_settles_66 : decode cX11_settles 66 = .ok (.imul, 1) := by decide +kernel
theorem dX11_settles_67 : decode cX11_settles 67 = .ok (.iload 4, 2) := by decide +kernel
theorem dX11_settles_69 : decode cX11_settles 69 = .ok (.iadd, 1) := by decide +kernel
theorem dX11_settles_70 : decode cX11_settles 70 = .ok (.aload_n 0, 1) := by decide +kernel
theorem dX11_settles_71 : decode cX11_settles 71 = .ok (.getfield 35, 3) := by decide +kernel
theorem dX11_settles_74 : decode cX11_settles 74 = .ok (.bipush 42, 2) := by decide +kernel
theorem dX11_settles_76 : decode cX11_settles 76 = .ok (.iload 4, 2) := by decide +kernel
theorem dX11_settles_78 : decode cX11_settles 78 = .ok (.iadd, 1) := by decide +kernel
theorem dX11_settles_79 : decode cX11_settles 79 = .ok (.iaload, 1) := by decide +kernel
theorem dX11_settles_80 : decode cX11_settles 80 = .ok (.iastore, 1) := by decide +kernel
theorem dX11_settles_81 : decode cX11_settles 81 = .ok (.iinc 4 1, 3) := by decide +kernel
theorem dX11_settles_84 : decode cX11_settles 84 = .ok (.goto (-36), 3) := by decide +kernel
theorem dX11_settles_87 : decode cX11_settles 87 = .ok (.aload_n 0, 1) := by decide +kernel
theorem dX11_settles_88 : decode cX11_settles 88 = .ok (.iconst 0, 1) := by decide +kernel
theorem dX11_settles_89 : decode cX11_settles 89 = .ok (.invokevirtual 377, 3) := by decide +kernel
theorem dX11_settles_92 : decode cX11_settles 92 = .ok (.iinc 3 1, 3) := by decide +kernel
theorem dX11_settles_95 : decode cX11_settles 95 = .ok (.iload_n 3, 1) := by decide +kernel
theorem dX11_settles_96 : decode cX11_settles 96 = .ok (.sipush 200, 3) := by decide +kernel
theorem dX11_settles_99 : decode cX11_settles 99 = .ok (.if_icmp .gt (-65), 3) := by decide +kernel
theorem dX11_settles_102 : decode cX11_settles 102 = .ok (.aload_n 0, 1) := by decide +kernel
theorem dX11_settles_103 : decode cX11_settles 103 = .ok (.iload_n 3, 1) := by decide +kernel
theorem dX11_settles_104 : decode cX11_settles 104 = .ok (.invokevirtual 414, 3) := by decide +kernel
theorem dX11_settles_107 : decode cX11_settles 107 = .ok (.istore_n 2, 1) := by decide +kernel
theorem dX11_settles_108 : decode cX11_settles 108 = .ok (.goto (-74), 3) := by decide +kernel
theorem dX11_settles_111 : decode cX11_settles 111 = .ok (.aload_n 0, 1) := by decide +kernel
theorem dX11_settles_112 : decode cX11_settles 112 = .ok (.invokevirtual 417, 3) := by decide +kernel
theorem dX11_settles_115 : decode cX11_settles 115 = .ok (.iload_n 2, 1) := by decide +kernel
theorem dX11_settles_116 : decode cX11_settles 116 = .ok (.ifCond .ge 10, 3) := by decide +kernel
theorem dX11_settles_119 : decode cX11_settles 119 = .ok (.aload_n 0, 1) := by decide +kernel
theorem dX11_settles_120 : decode cX11_settles 120 = .ok (.bipush 8, 2) := by decide +kernel
theorem dX11_settles_122 : decode cX11_settles 122 = .ok (.invokevirtual 340, 3) := by decide +kernel
theorem dX11_settles_125 : decode cX11_settles 125 = .ok (.ireturn, 1) := by decide +kernel
theorem dX11_settles_126 : decode cX11_settles 126 = .ok (.iload_n 1, 1) := by decide +kernel
theorem dX11_settles_127 : decode cX11_settles 127 = .ok (.ifCond .ne 7, 3) := by decide +kernel
theorem dX11_settles_130 : decode cX11_settles 130 = .ok (.iload_n 2, 1) := by decide +kernel
theorem dX11_settles_131 : decode cX11_settles 131 = .ok (.goto 6, 3) := by decide +kernel
theorem dX11_settles_134 : decode cX11_settles 134 = .ok (.iload_n 3, 1) := by decide +kernel
theorem dX11_settles_135 : decode cX11_settles 135 = .ok (.iload_n 2, 1) := by decide +kernel
theorem dX11_settles_136 : decode cX11_settles 136 = .ok (.isub, 1) := by decide +kernel
theorem dX11_settles_137 : decode cX11_settles 137 = .ok (.ireturn, 1) := by decide +kernel
set_option maxRecDepth 20000 in
theorem ggX11_after_X11_isIn : GoodIn wsX11_after wsX11_isIn := goodIn_r _ [7] (by decide +kernel) (by decide +kernel)
set_option maxRecDepth 20000 in
theorem gX11_after_X11_isIn : GoodIn wsX11_after (va_wsS RX11 106 yX11_isIn wsX11_isIn) := goodIn_app (goodIn_of _ (by decide +kernel)) ggX11_after_X11_isIn
set_option maxRecDepth 20000 in
theorem ggX11_after_X11_refuse : GoodIn wsX11_after wsX11_refuse := goodIn_r _ [11, 2, 65, 66, 67, 68, 69, 70, 71, 72, 73, 74, 75, 76, 77, 78, 79, 80, 81, 82, 83, 84, 85, 86, 87, 88, 89, 90, 91, 92, 93, 94, 95, 96, 97, 98, 99, 100, 101, 102, 103, 104, 105, 106, 107, 108, 109, 110] (by decide +kernel) (by decide +kernel)
set_option maxRecDepth 20000 in
theorem gX11_after_X11_refuse : GoodIn wsX11_after (wsV RX11 340 RX11 yX11_refuse wsX11_refuse) := goodIn_app (goodIn_of _ (by decide +kernel)) ggX11_after_X11_refuse
set_option maxRecDepth 20000 in
theorem ggX11_after_X11_keeps : GoodIn wsX11_after wsX11_keeps := goodIn_r _ [15, 16, 17, 65, 66, 67, 68, 69, 70, 71, 72, 73, 74, 75, 76, 77, 78, 79, 80, 81, 82, 83, 84, 85, 86, 87, 88, 89, 90, 91, 92, 93, 94, 95, 96, 97, 98, 99, 100, 101, 102, 103, 104, 105, 106, 107, 108, 109, 110] (by decide +kernel) (by decide +kernel)
set_option maxRecDepth 20000 in
theorem gX11_after_X11_keeps : GoodIn wsX11_after (wsV RX11 411 RX11 yX11_keeps wsX11_keeps) := goodIn_app (goodIn_of _ (by decide +kernel)) ggX11_after_X11_keeps
set_option maxRecDepth 20000 in
theorem ggX11_after_X11_talksFor : GoodIn wsX11_after wsX11_talksFor := goodIn_r _ [21, 22, 23, 24, 6, 25, 17, 26, 27, 28, 29, 30, 31, 32, 33, 34, 35, 36, 37, 38, 39, 40, 41, 42, 43, 44, 45, 46, 47, 48, 49, 50, 51, 52, 53, 65, 66, 67, 68, 69, 70, 71, 72, 73, 74, 75, 76, 77, 78, 79, 80, 81, 82, 83, 84, 85, 86, 87, 88, 89, 90, 91, 92, 93, 94, 95, 96, 97, 98, 99, 100, 101, 102, 103, 104, 105, 106, 107, 108, 109, 110] (by decide +kernel) (by decide +kernel)
set_option maxRecDepth 20000 in
theorem gX11_after_X11_talksFor : GoodIn wsX11_after (wsV RX11 386 RX11 yX11_talksFor wsX11_talksFor) := goodIn_app (goodIn_of _ (by decide +kernel)) ggX11_after_X11_talksFor
set_option maxRecDepth 20000 in
theorem ggX11_after_X11_judged : GoodIn wsX11_after wsX11_judged := goodIn_r _ [57, 17, 50, 51, 52, 6, 53, 26, 27, 28, 29, 30, 31, 32, 58, 59, 60, 65, 66, 67, 68, 69, 70, 71, 72, 73, 74, 75, 76, 77, 78, 79, 80, 81, 82, 83, 84, 85, 86, 87, 88, 89, 90, 91, 92, 93, 94, 95, 96, 97, 98, 99, 100, 101, 102, 103, 104, 105, 106, 107, 108, 109, 110] (by decide +kernel) (by decide +kernel)
set_option maxRecDepth 20000 in
theorem gX11_after_X11_judged : GoodIn wsX11_after (wsV RX11 389 RX11 yX11_judged wsX11_judged) := goodIn_app (goodIn_of _ (by decide +kernel)) ggX11_after_X11_judged
set_option maxRecDepth 20000 in
theorem ggX11_after_X11_gives : GoodIn wsX11_after wsX11_gives := goodIn_r _ [64, 17, 16, 65, 66, 67, 68, 69, 70, 71, 72, 73, 74, 75, 76, 77, 78, 79, 80, 81, 82, 83, 84, 85, 86, 87, 88, 89, 90, 91, 92, 93, 94, 95, 96, 97, 98, 99, 100, 101, 102, 103, 104, 105, 106, 107, 108, 109, 110] (by decide +kernel) (by decide +kernel)
set_option maxRecDepth 20000 in
theorem gX11_after_X11_gives : GoodIn wsX11_after (wsV RX11 417 RX11 yX11_gives wsX11_gives) := goodIn_app (goodIn_of _ (by decide +kernel)) ggX11_after_X11_gives
theorem dX11_after_0 : decode cX11_after 0 = .ok (.aload_n 0, 1) := by decide +kernel
theorem dX11_after_1 : decode cX11_after 1 = .ok (.iconst 0, 1) := by decide +kernel
theorem dX11_after_2 : decode cX11_after 2 = .ok (.putfield 71, 3) := by decide +kernel
theorem dX11_after_5 : decode cX11_after 5 = .ok (.aload_n 0, 1) := by decide +kernel
theorem dX11_after_6 : decode cX11_after 6 = .ok (.iconst 0, 1) := by decide +kernel
theorem dX11_after_7 : decode cX11_after 7 = .ok (.putfield 74, 3) := by decide +kernel
theorem dX11_after_10 : decode cX11_after 10 = .ok (.iload_n 1, 1) := by decide +kernel
theorem dX11_after_11 : decode cX11_after 11 = .ok (.i2l, 1) := by decide +kernel
theorem dX11_after_12 : decode cX11_after 12 = .ok (.lconst 0, 1) := by decide +kernel
theorem dX11_after_13 : decode cX11_after 13 = .ok (.ldc2_w 420, 3) := by decide +kernel
theorem dX11_after_16 : decode cX11_after 16 = .ok (.invokestatic 106, 3) := by decide +kernel
theorem dX11_after_19 : decode cX11_after 19 = .ok (.ifCond .ne 9, 3) := by decide +kernel
theorem dX11_after_22 : decode cX11_after 22 = .ok (.aload_n 0, 1) := by decide +kernel
theorem dX11_after_23 : decode cX11_after 23 = .ok (.iconst 5, 1) := by decide +kernel
theorem dX11_after_24 : decode cX11_after 24 = .ok (.invokevirtual 340, 3) := by decide +kernel
theorem dX11_after_27 : decode cX11_after 27 = .ok (.ireturn, 1) := by decide +kernel
theorem dX11_after_28 : decode cX11_after 28 = .ok (.aload_n 0, 1) := by decide +kernel
theorem dX11_after_29 : decode cX11_after 29 = .ok (.invokevirtual 411, 3) := by decide +kernel
theorem dX11_after_32 : decode cX11_after 32 = .ok (.aload_n 0, 1) := by decide +kernel
theorem dX11_after_33 : decode cX11_after 33 = .ok (.iload_n 1, 1) := by decide +kernel
theorem dX11_after_34 : decode cX11_after 34 = .ok (.invokevirtual 386, 3) := by decide +kernel
theorem dX11_after_37 : decode cX11_after 37 = .ok (.aload_n 0, 1) := by decide +kernel
theorem dX11_after_38 : decode cX11_after 38 = .ok (.invokevirtual 389, 3) := by decide +kernel
theorem dX11_after_41 : decode cX11_after 41 = .ok (.istore_n 2, 1) := by decide +kernel
theorem dX11_after_42 : decode cX11_after 42 = .ok (.aload_n 0, 1) := by decide +kernel
theorem dX11_after_43 : decode cX11_after 43 = .ok (.invokevirtual 417, 3) := by decide +kernel
theorem dX11_after_46 : decode cX11_after 46 = .ok (.iload_n 2, 1) := by decide +kernel
theorem dX11_after_47 : decode cX11_after 47 = .ok (.ireturn, 1) := by decide +kernel
set_option maxRecDepth 20000 in
theorem ggX11_isVerdict_X11_isIn : GoodIn wsX11_isVerdict wsX11_isIn := goodIn_r _ [5] (by decide +kernel) (by decide +kernel)
set_option maxRecDepth 20000 in
theorem gX11_isVerdict_X11_isIn : GoodIn wsX11_isVerdict (va_wsS RX11 106 yX11_isIn wsX11_isIn) := goodIn_app (goodIn_of _ (by decide +kernel)) ggX11_isVerdict_X11_isIn
theorem dX11_isVerdict_0 : decode cX11_isVerdict 0 = .ok (.lload_n 0, 1) := by decide +kernel
theorem dX11_isVerdict_1 : decode cX11_isVerdict 1 = .ok (.ldc2_w 102, 3) := by decide +kernel
theorem dX11_isVerdict_4 : decode cX11_isVerdict 4 = .ok (.lconst 1, 1) := by decide +kernel
theorem dX11_isVerdict_5 : decode cX11_isVerdict 5 = .ok (.invokestatic 106, 3) := by decide +kernel
theorem dX11_isVerdict_8 : decode cX11_isVerdict 8 = .ok (.ireturn, 1) := by decide +kernel
set_option maxRecDepth 20000 in
theorem ggX11_soonest_X11_isVerdict : GoodIn wsX11_soonest wsX11_isVerdict := goodIn_r _ [6, 7, 8, 9, 5, 10] (by decide +kernel) (by decide +kernel)
set_option maxRecDepth 20000 in
theorem gX11_soonest_X11_isVerdict : GoodIn wsX11_soonest (va_wsS RX11 422 yX11_isVerdict wsX11_isVerdict) := goodIn_app (goodIn_of _ (by decide +kernel)) ggX11_soonest_X11_isVerdict
set_option maxRecDepth 20000 in
theorem ggX11_soonest_X11_refuse : GoodIn wsX11_soonest wsX11_refuse := goodIn_r _ [14, 2, 64, 65, 66, 67, 68, 69, 70, 71, 72, 73, 74, 75, 76, 77, 78, 79, 80, 81, 82, 83, 84, 85, 86, 87, 88, 89, 90, 91, 92, 93, 94, 95, 96, 97, 98, 99, 100, 101, 102, 103, 104, 105, 106, 107, 108, 109] (by decide +kernel) (by decide +kernel)
set_option maxRecDepth 20000 in
theorem gX11_soonest_X11_refuse : GoodIn wsX11_soonest (wsV RX11 340 RX11 yX11_refuse wsX11_refuse) := goodIn_app (goodIn_of _ (by decide +kernel)) ggX11_soonest_X11_refuse
set_option maxRecDepth 20000 in
theorem ggX11_soonest_X11_keeps : GoodIn wsX11_soonest wsX11_keeps := goodIn_r _ [18, 19, 20, 64, 65, 66, 67, 68, 69, 70, 71, 72, 73, 74, 75, 76, 77, 78, 79, 80, 81, 82, 83, 84, 85, 86, 87, 88, 89, 90, 91, 92, 93, 94, 95, 96, 97, 98, 99, 100, 101, 102, 103, 104, 105, 106, 107, 108, 109] (by decide +kernel) (by decide +kernel)
set_option maxRecDepth 20000 in
theorem gX11_soonest_X11_keeps : GoodIn wsX11_soonest (wsV RX11 411 RX11 yX11_keeps wsX11_keeps) := goodIn_app (goodIn_of _ (by decide +kernel)) ggX11_soonest_X11_keeps
set_option maxRecDepth 20000 in
theorem ggX11_soonest_X11_judged : GoodIn wsX11_soonest wsX11_judged := goodIn_r _ [24, 20, 25, 26, 27, 5, 28, 29, 30, 31, 32, 33, 34, 35, 36, 37, 38, 64, 65, 66, 67, 68, 69, 70, 71, 72, 73, 74, 75, 76, 77, 78, 79, 80, 81, 82, 83, 84, 85, 86, 87, 88, 89, 90, 91, 92, 93, 94, 95, 96, 97, 98, 99, 100, 101, 102, 103, 104, 105, 106, 107, 108, 109] (by decide +kernel) (by decide +kernel)
set_option maxRecDepth 20000 in
theorem gX11_soonest_X11_judged : GoodIn wsX11_soonest (wsV RX11 389 RX11 yX11_judged wsX11_judged) := goodIn_app (goodIn_of _ (by decide +kernel)) ggX11_soonest_X11_judged
set_option maxRecDepth 20000 in
theorem ggX11_soonest_X11_talks : GoodIn wsX11_soonest wsX11_talks := goodIn_r _ [42, 20, 29, 30, 31, 5, 32, 33, 34, 35, 43, 44, 45, 46, 47, 48, 49, 50, 51, 52, 53, 54, 55, 56, 57, 58, 59, 25, 26, 27, 28, 64, 65, 66, 67, 68, 69, 70, 71, 72, 73, 74, 75, 76, 77, 78, 79, 80, 81, 82, 83, 84, 85, 86, 87, 88, 89, 90, 91, 92, 93, 94, 95, 96, 97, 98, 99, 100, 101, 102, 103, 104, 105, 106, 107, 108, 109] (by decide +kernel) (by decide +kernel)
set_option maxRecDepth 20000 in
theorem gX11_soonest_X11_talks : GoodIn wsX11_soonest (wsV RX11 377 RX11 yX11_talks wsX11_talks) := goodIn_app (goodIn_of _ (by decide +kernel)) ggX11_soonest_X11_talks
set_option maxRecDepth 20000 in
theorem ggX11_soonest_X11_gives : GoodIn wsX11_soonest wsX11_gives := goodIn_r _ [63, 20, 19, 64, 65, 66, 67, 68, 69, 70, 71, 72, 73, 74, 75, 76, 77, 78, 79, 80, 81, 82, 83, 84, 85, 86, 87, 88, 89, 90, 91, 92, 93, 94, 95, 96, 97, 98, 99, 100, 101, 102, 103, 104, 105, 106, 107, 108, 109] (by decide +kernel) (by decide +kernel)
set_option maxRecDepth 20000 in
theorem gX11_soonest_X11_gives : GoodIn wsX11_soonest (wsV RX11 417 RX11 yX11_gives wsX11_gives) := goodIn_app (goodIn_of _ (by decide +kernel)) ggX11_soonest_X11_gives
theorem dX11_soonest_0 : decode cX11_soonest 0 = .ok (.aload_n 0, 1) := by decide +kernel
theorem dX11_soonest_1 : decode cX11_soonest 1 = .ok (.iconst 0, 1) := by decide +kernel
theorem dX11_soonest_2 : decode cX11_soonest 2 = .ok (.putfield 71, 3) := by decide +kernel
theorem dX11_soonest_5 : decode cX11_soonest 5 = .ok (.aload_n 0, 1) := by decide +kernel
theorem dX11_soonest_6 : decode cX11_soonest 6 = .ok (.iconst 0, 1) := by decide +kernel
theorem dX11_soonest_7 : decode cX11_soonest 7 = .ok (.putfield 74, 3) := by decide +kernel
theorem dX11_soonest_10 : decode cX11_soonest 10 = .ok (.iload_n 1, 1) := by decide +kernel
theorem dX11_soonest_11 : decode cX11_soonest 11 = .ok (.i2l, 1) := by decide +kernel
theorem dX11_soonest_12 : decode cX11_soonest 12 = .ok (.invokestatic 422, 3) := by decide +kernel
theorem dX11_soonest_15 : decode cX11_soonest 15 = .ok (.ifCond .ne 9, 3) := by decide +kernel
theorem dX11_soonest_18 : decode cX11_soonest 18 = .ok (.aload_n 0, 1) := by decide +kernel
theorem dX11_soonest_19 : decode cX11_soonest 19 = .ok (.iconst 5, 1) := by decide +kernel
theorem dX11_soonest_20 : decode cX11_soonest 20 = .ok (.invokevirtual 340, 3) := by decide +kernel
theorem dX11_soonest_23 : decode cX11_soonest 23 = .ok (.ireturn, 1) := by decide +kernel
theorem dX11_soonest_24 : decode cX11_soonest 24 = .ok (.aload_n 0, 1) := by decide +kernel
theorem dX11_soonest_25 : decode cX11_soonest 25 = .ok (.invokevirtual 411, 3) := by decide +kernel
theorem dX11_soonest_28 : decode cX11_soonest 28 = .ok (.iconst 0, 1) := by decide +kernel
theorem dX11_soonest_29 : decode cX11_soonest 29 = .ok (.istore_n 2, 1) := by decide +kernel
theorem dX11_soonest_30 : decode cX11_soonest 30 = .ok (.iload_n 2, 1) := by decide +kernel
theorem dX11_soonest_31 : decode cX11_soonest 31 = .ok (.sipush 200, 3) := by decide +kernel
theorem dX11_soonest_34 : decode cX11_soonest 34 = .ok (.if_icmp .gt 22, 3) := by decide +kernel
theorem dX11_soonest_37 : decode cX11_soonest 37 = .ok (.aload_n 0, 1) := by decide +kernel
theorem dX11_soonest_38 : decode cX11_soonest 38 = .ok (.invokevirtual 389, 3) := by decide +kernel
theorem dX11_soonest_41 : decode cX11_soonest 41 = .ok (.iload_n 1, 1) := by decide +kernel
theorem dX11_soonest_42 : decode cX11_soonest 42 = .ok (.if_icmp .eq 14, 3) := by decide +kernel
theorem dX11_soonest_45 : decode cX11_soonest 45 = .ok (.aload_n 0, 1) := by decide +kernel
theorem dX11_soonest_46 : decode cX11_soonest 46 = .ok (.iconst 1, 1) := by decide +kernel
theorem dX11_soonest_47 : decode cX11_soonest 47 = .ok (.invokevirtual 377, 3) := by decide +kernel
theorem dX11_soonest_50 : decode cX11_soonest 50 = .ok (.iinc 2 1, 3) := by decide +kernel
theorem dX11_soonest_53 : decode cX11_soonest 53 = .ok (.goto (-23), 3) := by decide +kernel
theorem dX11_soonest_56 : decode cX11_soonest 56 = .ok (.aload_n 0, 1) := by decide +kernel
theorem dX11_soonest_57 : decode cX11_soonest 57 = .ok (.invokevirtual 417, 3) := by decide +kernel
theorem dX11_soonest_60 : decode cX11_soonest 60 = .ok (.iload_n 2, 1) := by decide +kernel
theorem dX11_soonest_61 : decode cX11_soonest 61 = .ok (.sipush 200, 3) := by decide +kernel
theorem dX11_soonest_64 : decode cX11_soonest 64 = .ok (.if_icmp .le 12, 3) := by decide +kernel
theorem dX11_soonest_67 : decode cX11_soonest 67 = .ok (.aload_n 0, 1) := by decide +kernel
theorem dX11_soonest_68 : decode cX11_soonest 68 = .ok (.bipush 8, 2) := by decide +kernel
theorem dX11_soonest_70 : decode cX11_soonest 70 = .ok (.invokevirtual 340, 3) := by decide +kernel
theorem dX11_soonest_73 : decode cX11_soonest 73 = .ok (.goto 4, 3) := by decide +kernel
theorem dX11_soonest_76 : decode cX11_soonest 76 = .ok (.iload_n 2, 1) := by decide +kernel
theorem dX11_soonest_77 : decode cX11_soonest 77 = .ok (.ireturn, 1) := by decide +kernel
set_option maxRecDepth 20000 in
theorem ggX11_orders_X11_judged : GoodIn wsX11_orders wsX11_judged := goodIn_r _ [8, 2, 9, 10, 11, 7, 12, 13, 14, 15, 16, 17, 18, 19, 20, 21, 22, 51, 52, 53, 54, 55, 56, 57, 58, 59, 60, 61, 62, 63, 64, 65, 66, 67, 68, 69, 70, 71, 72, 73, 74, 75, 76, 77, 78, 79, 80, 81, 82, 83, 84, 85, 86, 87, 88, 89, 90, 91, 92, 93, 94, 95, 96] (by decide +kernel) (by decide +kernel)
set_option maxRecDepth 20000 in
theorem gX11_orders_X11_judged : GoodIn wsX11_orders (wsV RX11 389 RX11 yX11_judged wsX11_judged) := goodIn_app (goodIn_of _ (by decide +kernel)) ggX11_orders_X11_judged
set_option maxRecDepth 20000 in
theorem ggX11_orders_X11_has : GoodIn wsX11_orders wsX11_has := goodIn_r _ [19] (by decide +kernel) (by decide +kernel)
set_option maxRecDepth 20000 in
theorem gX11_orders_X11_has : GoodIn wsX11_orders (va_wsS RX11 110 yX11_has wsX11_has) := goodIn_app (goodIn_of _ (by decide +kernel)) ggX11_orders_X11_has
set_option maxRecDepth 20000 in
theorem ggX11_orders_X11_showsOne : GoodIn wsX11_orders wsX11_showsOne := goodIn_r _ [26, 2, 27, 28, 29, 30, 31, 32, 33, 13, 14, 15, 7, 16, 17, 18, 19, 34, 35, 36, 37, 38, 39, 51, 52, 53, 54, 55, 56, 57, 58, 59, 60, 61, 62, 63, 64, 65, 66, 67, 68, 69, 70, 71, 72, 73, 74, 75, 76, 77, 78, 79, 80, 81, 82, 83, 84, 85, 86, 87, 88, 89, 90, 91, 92, 93, 94, 95, 96] (by decide +kernel) (by decide +kernel)
set_option maxRecDepth 20000 in
theorem gX11_orders_X11_showsOne : GoodIn wsX11_orders (wsV RX11 368 RX11 yX11_showsOne wsX11_showsOne) := goodIn_app (goodIn_of _ (by decide +kernel)) ggX11_orders_X11_showsOne
set_option maxRecDepth 20000 in
theorem ggX11_orders_X11_talks : GoodIn wsX11_orders wsX11_talks := goodIn_r _ [43, 2, 13, 14, 15, 7, 16, 17, 18, 19, 44, 45, 46, 47, 27, 28, 29, 30, 34, 35, 36, 37, 38, 39, 31, 32, 33, 9, 10, 11, 12, 51, 52, 53, 54, 55, 56, 57, 58, 59, 60, 61, 62, 63, 64, 65, 66, 67, 68, 69, 70, 71, 72, 73, 74, 75, 76, 77, 78, 79, 80, 81, 82, 83, 84, 85, 86, 87, 88, 89, 90, 91, 92, 93, 94, 95, 96] (by decide +kernel) (by decide +kernel)
set_option maxRecDepth 20000 in
theorem gX11_orders_X11_talks : GoodIn wsX11_orders (wsV RX11 377 RX11 yX11_talks wsX11_talks) := goodIn_app (goodIn_of _ (by decide +kernel)) ggX11_orders_X11_talks
set_option maxRecDepth 20000 in
theorem ggX11_orders_X11_orders : GoodIn wsX11_orders wsX11_orders := goodIn_r _ [0, 1, 2, 3, 4, 5, 6, 7, 8, 9, 10, 11, 12, 13, 14, 15, 16, 17, 18, 19, 20, 21, 22, 23, 24, 25, 26, 27, 28, 29, 30, 31, 32, 33, 34, 35, 36, 37, 38, 39, 40, 41, 42, 43, 44, 45, 46, 47, 48, 49, 50, 51, 52, 53, 54, 55, 56, 57, 58, 59, 60, 61, 62, 63, 64, 65, 66, 67, 68, 69, 70, 71, 72, 73, 74, 75, 76, 77, 78, 79, 80, 81, 82, 83, 84, 85, 86, 87, 88, 89, 90, 91, 92, 93, 94, 95, 96] (by decide +kernel) (by decide +kernel)
set_option maxRecDepth 20000 in
theorem gX11_orders_X11_orders : GoodIn wsX11_orders (wsV RX11 425 RX11 yX11_orders wsX11_orders) := goodIn_app (goodIn_of _ (by decide +kernel)) ggX11_orders_X11_orders
theorem dX11_orders_0 : decode cX11_orders 0 = .ok (.iload_n 2, 1) := by decide +kernel
theorem dX11_orders_1 : decode cX11_orders 1 = .ok (.iload_n 3, 1) := by decide +kernel
theorem dX11_orders_2 : decode cX11_orders 2 = .ok (.if_icmp .ne 17, 3) := by decide +kernel
theorem dX11_orders_5 : decode cX11_orders 5 = .ok (.aload_n 0, 1) := by decide +kernel
theorem dX11_orders_6 : decode cX11_orders 6 = .ok (.invokevirtual 389, 3) := by decide +kernel
theorem dX11_orders_9 : decode cX11_orders 9 = .ok (.iload_n 1, 1) := by decide +kernel
theorem dX11_orders_10 : decode cX11_orders 10 = .ok (.if_icmp .ne 7, 3) := by decide +kernel
theorem dX11_orders_13 : decode cX11_orders 13 = .ok (.iconst 1, 1) := by decide +kernel
theorem dX11_orders_14 : decode cX11_orders 14 = .ok (.goto 4, 3) := by decide +kernel
theorem dX11_orders_17 : decode cX11_orders 17 = .ok (.iconst 0, 1) := by decide +kernel
theorem dX11_orders_18 : decode cX11_orders 18 = .ok (.ireturn, 1) := by decide +kernel
theorem dX11_orders_19 : decode cX11_orders 19 = .ok (.iconst 0, 1) := by decide +kernel
theorem dX11_orders_20 : decode cX11_orders 20 = .ok (.istore 4, 2) := by decide +kernel
theorem dX11_orders_22 : decode cX11_orders 22 = .ok (.iload 4, 2) := by decide +kernel
theorem dX11_orders_24 : decode cX11_orders 24 = .ok (.sipush 198, 3) := by decide +kernel
theorem dX11_orders_27 : decode cX11_orders 27 = .ok (.if_icmp .ge 29, 3) := by decide +kernel
theorem dX11_orders_30 : decode cX11_orders 30 = .ok (.aload_n 0, 1) := by decide +kernel
theorem dX11_orders_31 : decode cX11_orders 31 = .ok (.getfield 53, 3) := by decide +kernel
theorem dX11_orders_34 : decode cX11_orders 34 = .ok (.sipush 198, 3) := by decide +kernel
theorem dX11_orders_37 : decode cX11_orders 37 = .ok (.iload_n 2, 1) := by decide +kernel
theorem dX11_orders_38 : decode cX11_orders 38 = .ok (.imul, 1) := by decide +kernel
theorem dX11_orders_39 : decode cX11_orders 39 = .ok (.iload 4, 2) := by decide +kernel
theorem dX11_orders_41 : decode cX11_orders 41 = .ok (.iadd, 1) := by decide +kernel
theorem dX11_orders_42 : decode cX11_orders 42 = .ok (.aload_n 0, 1) := by decide +kernel
theorem dX11_orders_43 : decode cX11_orders 43 = .ok (.getfield 35, 3) := by decide +kernel
theorem dX11_orders_46 : decode cX11_orders 46 = .ok (.iload 4, 2) := by decide +kernel
theorem dX11_orders_48 : decode cX11_orders 48 = .ok (.iaload, 1) := by decide +kernel
theorem dX11_orders_49 : decode cX11_orders 49 = .ok (.iastore, 1) := by decide +kernel
theorem dX11_orders_50 : decode cX11_orders 50 = .ok (.iinc 4 1, 3) := by decide +kernel
theorem dX11_orders_53 : decode cX11_orders 53 = .ok (.goto (-31), 3) := by decide +kernel
theorem dX11_orders_56 : decode cX11_orders 56 = .ok (.iconst 0, 1) := by decide +kernel
theorem dX11_orders_57 : decode cX11_orders 57 = .ok (.istore 4, 2) := by decide +kernel
theorem dX11_orders_59 : decode cX11_orders 59 = .ok (.iload 4, 2) := by decide +kernel
theorem dX11_orders_61 : decode cX11_orders 61 = .ok (.aload_n 0, 1) := by decide +kernel
theorem dX11_orders_62 : decode cX11_orders 62 = .ok (.getfield 35, 3) := by decide +kernel
theorem dX11_orders_65 : decode cX11_orders 65 = .ok (.iconst 1, 1) := by decide +kernel
theorem dX11_orders_66 : decode cX11_orders 66 = .ok (.iaload, 1) := by decide +kernel
theorem dX11_orders_67 : decode cX11_orders 67 = .ok (.if_icmp .ge 102, 3) := by decide +kernel
theorem dX11_orders_70 : decode cX11_orders 70 = .ok (.aload_n 0, 1) := by decide +kernel
theorem dX11_orders_71 : decode cX11_orders 71 = .ok (.getfield 35, 3) := by decide +kernel
theorem dX11_orders_74 : decode cX11_orders 74 = .ok (.bipush 11, 2) := by decide +kernel
theorem dX11_orders_76 : decode cX11_orders 76 = .ok (.iaload, 1) := by decide +kernel
theorem dX11_orders_77 : decode cX11_orders 77 = .ok (.iload 4, 2) := by decide +kernel
theorem dX11_orders_79 : decode cX11_orders 79 = .ok (.invokestatic 110, 3) := by decide +kernel
theorem dX11_orders_82 : decode cX11_orders 82 = .ok (.ifCond .eq 6, 3) := by decide +kernel
theorem dX11_orders_85 : decode cX11_orders 85 = .ok (.goto 78, 3) := by decide +kernel
theorem dX11_orders_88 : decode cX11_orders 88 = .ok (.aload_n 0, 1) := by decide +kernel
theorem dX11_orders_89 : decode cX11_orders 89 = .ok (.getfield 47, 3) := by decide +kernel
theorem dX11_orders_92 : decode cX11_orders 92 = .ok (.iload_n 2, 1) := by decide +kernel
theorem dX11_orders_93 : decode cX11_orders 93 = .ok (.iload 4, 2) := by decide +kernel
theorem dX11_orders_95 : decode cX11_orders 95 = .ok (.iastore, 1) := by decide +kernel
theorem dX11_orders_96 : decode cX11_orders 96 = .ok (.aload_n 0, 1) := by decide +kernel
theorem dX11_orders_97 : decode cX11_orders 97 = .ok (.iload 4, 2) := by decide +kernel
theorem dX11_orders_99 : decode cX11_orders 99 = .ok (.invokevirtual 368, 3) := by decide +kernel
theorem dX11_orders_102 : decode cX11_orders 102 = .ok (.pop, 1) := by decide +kernel
theorem dX11_orders_103 : decode cX11_orders 103 = .ok (.aload_n 0, 1) := by decide +kernel
theorem dX11_orders_104 : decode cX11_orders 104 = .ok (.iconst 1, 1) := by decide +kernel
theorem dX11_orders_105 : decode cX11_orders 105 = .ok (.invokevirtual 377, 3) := by decide +kernel
theorem dX11_orders_108 : decode cX11_orders 108 = .ok (.aload_n 0, 1) := by decide +kernel
theorem dX11_orders_109 : decode cX11_orders 109 = .ok (.iload_n 1, 1) := by decide +kernel
theorem dX11_orders_110 : decode cX11_orders 110 = .ok (.iload_n 2, 1) := by decide +kernel
theorem dX11_orders_111 : decode cX11_orders 111 = .ok (.iconst 1, 1) := by decide +kernel
theorem dX11_orders_112 : decode cX11_orders 112 = .ok (.iadd, 1) := by decide +kernel
theorem dX11_orders_113 : decode cX11_orders 113 = .ok (.iload_n 3, 1) := by decide +kernel
theorem dX11_orders_114 : decode cX11_orders 114 = .ok (.invokevirtual 425, 3) := by decide +kernel
theorem dX11_orders_117 : decode cX11_orders 117 = .ok (.istore 5, 2) := by decide +kernel
theorem dX11_orders_119 : decode cX11_orders 119 = .ok (.iconst 0, 1) := by decide +kernel
theorem dX11_orders_120 : decode cX11_orders 120 = .ok (.istore 6, 2) := by decide +kernel
theorem dX11_orders_122 : decode cX11_orders 122 = .ok (.iload 6, 2) := by decide +kernel
theorem dX11_orders_124 : decode cX11_orders 124 = .ok (.sipush 198, 3) := by decide +kernel
theorem dX11_orders_127 : decode cX11_orders 127 = .ok (.if_icmp .ge 29, 3) := by decide +kernel
theorem dX11_orders_130 : decode cX11_orders 130 = .ok (.aload_n 0, 1) := by decide +kernel
theorem dX11_orders_131 : decode cX11_orders 131 = .ok (.getfield 35, 3) := by decide +kernel
theorem dX11_orders_134 : decode cX11_orders 134 = .ok (.iload 6, 2) := by decide +kernel
theorem dX11_orders_136 : decode cX11_orders 136 = .ok (.aload_n 0, 1) := by decide +kernel
theorem dX11_orders_137 : decode cX11_orders 137 = .ok (.getfield 53, 3) := by decide +kernel
theorem dX11_orders_140 : decode cX11_orders 140 = .ok (.sipush 198, 3) := by decide +kernel
theorem dX11_orders_143 : decode cX11_orders 143 = .ok (.iload_n 2, 1) := by decide +kernel
theorem dX11_orders_144 : decode cX11_orders 144 = .ok (.imul, 1) := by decide +kernel
theorem dX11_orders_145 : decode cX11_orders 145 = .ok (.iload 6, 2) := by decide +kernel
theorem dX11_orders_147 : decode cX11_orders 147 = .ok (.iadd, 1) := by decide +kernel
theorem dX11_orders_148 : decode cX11_orders 148 = .ok (.iaload, 1) := by decide +kernel
theorem dX11_orders_149 : decode cX11_orders 149 = .ok (.iastore, 1) := by decide +kernel
theorem dX11_orders_150 : decode cX11_orders 150 = .ok (.iinc 6 1, 3) := by decide +kernel
theorem dX11_orders_153 : decode cX11_orders 153 = .ok (.goto (-31), 3) := by decide +kernel
theorem dX11_orders_156 : decode cX11_orders 156 = .ok (.iload 5, 2) := by decide +kernel
theorem dX11_orders_158 : decode cX11_orders 158 = .ok (.ifCond .eq 5, 3) := by decide +kernel
theorem dX11_orders_161 : decode cX11_orders 161 = .ok (.iconst 1, 1) := by decide +kernel
theorem dX11_orders_162 : decode cX11_orders 162 = .ok (.ireturn, 1) := by decide +kernel
theorem dX11_orders_163 : decode cX11_orders 163 = .ok (.iinc 4 1, 3) := by decide +kernel
theorem dX11_orders_166 : decode cX11_orders 166 = .ok (.goto (-107), 3) := by decide +kernel
theorem dX11_orders_169 : decode cX11_orders 169 = .ok (.iconst 0, 1) := by decide +kernel
theorem dX11_orders_170 : decode cX11_orders 170 = .ok (.ireturn, 1) := by decide +kernel
set_option maxRecDepth 20000 in
theorem ggX11_bestOrder_X11_isVerdict : GoodIn wsX11_bestOrder wsX11_isVerdict := goodIn_r _ [9, 10, 11, 12, 8, 13] (by decide +kernel) (by decide +kernel)
set_option maxRecDepth 20000 in
theorem gX11_bestOrder_X11_isVerdict : GoodIn wsX11_bestOrder (va_wsS RX11 422 yX11_isVerdict wsX11_isVerdict) := goodIn_app (goodIn_of _ (by decide +kernel)) ggX11_bestOrder_X11_isVerdict
set_option maxRecDepth 20000 in
theorem ggX11_bestOrder_X11_refuse : GoodIn wsX11_bestOrder wsX11_refuse := goodIn_r _ [17, 2, 67, 68, 69, 70, 71, 72, 73, 74, 75, 76, 77, 78, 79, 80, 81, 82, 83, 84, 85, 86, 87, 88, 89, 90, 91, 92, 93, 94, 95, 96, 97, 98, 99, 100, 101, 102, 103, 104, 105, 106, 107, 108, 109, 110, 111, 112] (by decide +kernel) (by decide +kernel)
set_option maxRecDepth 20000 in
theorem gX11_bestOrder_X11_refuse : GoodIn wsX11_bestOrder (wsV RX11 340 RX11 yX11_refuse wsX11_refuse) := goodIn_app (goodIn_of _ (by decide +kernel)) ggX11_bestOrder_X11_refuse
set_option maxRecDepth 20000 in
theorem ggX11_bestOrder_X11_orders : GoodIn wsX11_bestOrder wsX11_orders := goodIn_r _ [21, 22, 23, 5, 24, 25, 26, 8, 27, 28, 29, 30, 31, 32, 33, 34, 35, 36, 37, 38, 39, 40, 41, 42, 43, 44, 45, 46, 47, 48, 49, 50, 51, 52, 53, 54, 55, 56, 57, 58, 59, 60, 61, 62, 63, 64, 65, 66, 18, 19, 20, 67, 68, 69, 70, 71, 72, 73, 74, 75, 76, 77, 78, 79, 80, 81, 82, 83, 84, 85, 86, 87, 88, 89, 90, 91, 92, 93, 94, 95, 96, 97, 98, 99, 100, 101, 102, 103, 104, 105, 106, 107, 108, 109, 110, 111, 112] (by decide +kernel) (by decide +kernel)
set_option maxRecDepth 20000 in
theorem gX11_bestOrder_X11_orders : GoodIn wsX11_bestOrder (wsV RX11 425 RX11 yX11_orders wsX11_orders) := goodIn_app (goodIn_of _ (by decide +kernel)) ggX11_bestOrder_X11_orders
theorem dX11_bestOrder_0 : decode cX11_bestOrder 0 = .ok (.aload_n 0, 1) := by decide +kernel
theorem dX11_bestOrder_1 : decode cX11_bestOrder 1 = .ok (.iconst 0, 1) := by decide +kernel
theorem dX11_bestOrder_2 : decode cX11_bestOrder 2 = .ok (.putfield 71, 3) := by decide +kernel
theorem dX11_bestOrder_5 : decode cX11_bestOrder 5 = .ok (.aload_n 0, 1) := by decide +kernel
theorem dX11_bestOrder_6 : decode cX11_bestOrder 6 = .ok (.iconst 0, 1) := by decide +kernel
theorem dX11_bestOrder_7 : decode cX11_bestOrder 7 = .ok (.putfield 74, 3) := by decide +kernel
theorem dX11_bestOrder_10 : decode cX11_bestOrder 10 = .ok (.iload_n 1, 1) := by decide +kernel
theorem dX11_bestOrder_11 : decode cX11_bestOrder 11 = .ok (.i2l, 1) := by decide +kernel
theorem dX11_bestOrder_12 : decode cX11_bestOrder 12 = .ok (.invokestatic 422, 3) := by decide +kernel
theorem dX11_bestOrder_15 : decode cX11_bestOrder 15 = .ok (.ifCond .ne 9, 3) := by decide +kernel
theorem dX11_bestOrder_18 : decode cX11_bestOrder 18 = .ok (.aload_n 0, 1) := by decide +kernel
theorem dX11_bestOrder_19 : decode cX11_bestOrder 19 = .ok (.iconst 5, 1) := by decide +kernel
theorem dX11_bestOrder_20 : decode cX11_bestOrder 20 = .ok (.invokevirtual 340, 3) := by decide +kernel
theorem dX11_bestOrder_23 : decode cX11_bestOrder 23 = .ok (.ireturn, 1) := by decide +kernel
theorem dX11_bestOrder_24 : decode cX11_bestOrder 24 = .ok (.iconst 0, 1) := by decide +kernel
theorem dX11_bestOrder_25 : decode cX11_bestOrder 25 = .ok (.istore_n 2, 1) := by decide +kernel
theorem dX11_bestOrder_26 : decode cX11_bestOrder 26 = .ok (.iload_n 2, 1) := by decide +kernel
theorem dX11_bestOrder_27 : decode cX11_bestOrder 27 = .ok (.iconst 5, 1) := by decide +kernel
theorem dX11_bestOrder_28 : decode cX11_bestOrder 28 = .ok (.if_icmp .ge 54, 3) := by decide +kernel
theorem dX11_bestOrder_31 : decode cX11_bestOrder 31 = .ok (.aload_n 0, 1) := by decide +kernel
theorem dX11_bestOrder_32 : decode cX11_bestOrder 32 = .ok (.iload_n 1, 1) := by decide +kernel
theorem dX11_bestOrder_33 : decode cX11_bestOrder 33 = .ok (.iconst 0, 1) := by decide +kernel
theorem dX11_bestOrder_34 : decode cX11_bestOrder 34 = .ok (.iload_n 2, 1) := by decide +kernel
theorem dX11_bestOrder_35 : decode cX11_bestOrder 35 = .ok (.invokevirtual 425, 3) := by decide +kernel
theorem dX11_bestOrder_38 : decode cX11_bestOrder 38 = .ok (.ifCond .ne 6, 3) := by decide +kernel
theorem dX11_bestOrder_41 : decode cX11_bestOrder 41 = .ok (.goto 35, 3) := by decide +kernel
theorem dX11_bestOrder_44 : decode cX11_bestOrder 44 = .ok (.aload_n 0, 1) := by decide +kernel
theorem dX11_bestOrder_45 : decode cX11_bestOrder 45 = .ok (.iload_n 2, 1) := by decide +kernel
theorem dX11_bestOrder_46 : decode cX11_bestOrder 46 = .ok (.putfield 56, 3) := by decide +kernel
theorem dX11_bestOrder_49 : decode cX11_bestOrder 49 = .ok (.iconst 0, 1) := by decide +kernel
theorem dX11_bestOrder_50 : decode cX11_bestOrder 50 = .ok (.istore_n 3, 1) := by decide +kernel
theorem dX11_bestOrder_51 : decode cX11_bestOrder 51 = .ok (.iload_n 3, 1) := by decide +kernel
theorem dX11_bestOrder_52 : decode cX11_bestOrder 52 = .ok (.iload_n 2, 1) := by decide +kernel
theorem dX11_bestOrder_53 : decode cX11_bestOrder 53 = .ok (.if_icmp .ge 21, 3) := by decide +kernel
theorem dX11_bestOrder_56 : decode cX11_bestOrder 56 = .ok (.aload_n 0, 1) := by decide +kernel
theorem dX11_bestOrder_57 : decode cX11_bestOrder 57 = .ok (.getfield 50, 3) := by decide +kernel
theorem dX11_bestOrder_60 : decode cX11_bestOrder 60 = .ok (.iload_n 3, 1) := by decide +kernel
theorem dX11_bestOrder_61 : decode cX11_bestOrder 61 = .ok (.aload_n 0, 1) := by decide +kernel
theorem dX11_bestOrder_62 : decode cX11_bestOrder 62 = .ok (.getfield 47, 3) := by decide +kernel
theorem dX11_bestOrder_65 : decode cX11_bestOrder 65 = .ok (.iload_n 3, 1) := by decide +kernel
theorem dX11_bestOrder_66 : decode cX11_bestOrder 66 = .ok (.iaload, 1) := by decide +kernel
theorem dX11_bestOrder_67 : decode cX11_bestOrder 67 = .ok (.iastore, 1) := by decide +kernel
theorem dX11_bestOrder_68 : decode cX11_bestOrder 68 = .ok (.iinc 3 1, 3) := by decide +kernel
theorem dX11_bestOrder_71 : decode cX11_bestOrder 71 = .ok (.goto (-20), 3) := by decide +kernel
theorem dX11_bestOrder_74 : decode cX11_bestOrder 74 = .ok (.iload_n 2, 1) := by decide +kernel
theorem dX11_bestOrder_75 : decode cX11_bestOrder 75 = .ok (.ireturn, 1) := by decide +kernel
theorem dX11_bestOrder_76 : decode cX11_bestOrder 76 = .ok (.iinc 2 1, 3) := by decide +kernel
theorem dX11_bestOrder_79 : decode cX11_bestOrder 79 = .ok (.goto (-53), 3) := by decide +kernel
theorem dX11_bestOrder_82 : decode cX11_bestOrder 82 = .ok (.aload_n 0, 1) := by decide +kernel
theorem dX11_bestOrder_83 : decode cX11_bestOrder 83 = .ok (.bipush 8, 2) := by decide +kernel
theorem dX11_bestOrder_85 : decode cX11_bestOrder 85 = .ok (.invokevirtual 340, 3) := by decide +kernel
theorem dX11_bestOrder_88 : decode cX11_bestOrder 88 = .ok (.ireturn, 1) := by decide +kernel
set_option maxRecDepth 20000 in
theorem ggX11_orderAt_X11_isIn : GoodIn wsX11_orderAt wsX11_isIn := goodIn_r _ [8] (by decide +kernel) (by decide +kernel)
set_option maxRecDepth 20000 in
theorem gX11_orderAt_X11_isIn : GoodIn wsX11_orderAt (va_wsS RX11 106 yX11_isIn wsX11_isIn) := goodIn_app (goodIn_of _ (by decide +kernel)) ggX11_orderAt_X11_isIn
set_option maxRecDepth 20000 in
theorem ggX11_orderAt_X11_refuse : GoodIn wsX11_orderAt wsX11_refuse := goodIn_r _ [12, 2, 13, 14, 15, 16, 17, 18, 19, 20, 21, 22, 23, 24, 25, 26, 27, 28, 29, 30, 31, 32, 33, 34, 35, 36, 37, 38, 39, 40, 41, 42, 43, 44, 45, 46, 47, 48, 49, 50, 51, 52, 53, 54, 55, 56, 57, 58] (by decide +kernel) (by decide +kernel)
set_option maxRecDepth 20000 in
theorem gX11_orderAt_X11_refuse : GoodIn wsX11_orderAt (wsV RX11 340 RX11 yX11_refuse wsX11_refuse) := goodIn_app (goodIn_of _ (by decide +kernel)) ggX11_orderAt_X11_refuse
theorem dX11_orderAt_0 : decode cX11_orderAt 0 = .ok (.aload_n 0, 1) := by decide +kernel
theorem dX11_orderAt_1 : decode cX11_orderAt 1 = .ok (.iconst 0, 1) := by decide +kernel
theorem dX11_orderAt_2 : decode cX11_orderAt 2 = .ok (.putfield 71, 3) := by decide +kernel
theorem dX11_orderAt_5 : decode cX11_orderAt 5 = .ok (.aload_n 0, 1) := by decide +kernel
theorem dX11_orderAt_6 : decode cX11_orderAt 6 = .ok (.iconst 0, 1) := by decide +kernel
theorem dX11_orderAt_7 : decode cX11_orderAt 7 = .ok (.putfield 74, 3) := by decide +kernel
theorem dX11_orderAt_10 : decode cX11_orderAt 10 = .ok (.iload_n 1, 1) := by decide +kernel
theorem dX11_orderAt_11 : decode cX11_orderAt 11 = .ok (.i2l, 1) := by decide +kernel
theorem dX11_orderAt_12 : decode cX11_orderAt 12 = .ok (.lconst 0, 1) := by decide +kernel
theorem dX11_orderAt_13 : decode cX11_orderAt 13 = .ok (.aload_n 0, 1) := by decide +kernel
theorem dX11_orderAt_14 : decode cX11_orderAt 14 = .ok (.getfield 56, 3) := by decide +kernel
theorem dX11_orderAt_17 : decode cX11_orderAt 17 = .ok (.iconst 1, 1) := by decide +kernel
theorem dX11_orderAt_18 : decode cX11_orderAt 18 = .ok (.isub, 1) := by decide +kernel
theorem dX11_orderAt_19 : decode cX11_orderAt 19 = .ok (.i2l, 1) := by decide +kernel
theorem dX11_orderAt_20 : decode cX11_orderAt 20 = .ok (.invokestatic 106, 3) := by decide +kernel
theorem dX11_orderAt_23 : decode cX11_orderAt 23 = .ok (.ifCond .eq 12, 3) := by decide +kernel
theorem dX11_orderAt_26 : decode cX11_orderAt 26 = .ok (.aload_n 0, 1) := by decide +kernel
theorem dX11_orderAt_27 : decode cX11_orderAt 27 = .ok (.getfield 50, 3) := by decide +kernel
theorem dX11_orderAt_30 : decode cX11_orderAt 30 = .ok (.iload_n 1, 1) := by decide +kernel
theorem dX11_orderAt_31 : decode cX11_orderAt 31 = .ok (.iaload, 1) := by decide +kernel
theorem dX11_orderAt_32 : decode cX11_orderAt 32 = .ok (.goto 9, 3) := by decide +kernel
theorem dX11_orderAt_35 : decode cX11_orderAt 35 = .ok (.aload_n 0, 1) := by decide +kernel
theorem dX11_orderAt_36 : decode cX11_orderAt 36 = .ok (.bipush 8, 2) := by decide +kernel
theorem dX11_orderAt_38 : decode cX11_orderAt 38 = .ok (.invokevirtual 340, 3) := by decide +kernel
theorem dX11_orderAt_41 : decode cX11_orderAt 41 = .ok (.ireturn, 1) := by decide +kernel
set_option maxRecDepth 20000 in
theorem ggX11_bribes_X11_isVerdict : GoodIn wsX11_bribes wsX11_isVerdict := goodIn_r _ [9, 10, 11, 12, 8, 13] (by decide +kernel) (by decide +kernel)
set_option maxRecDepth 20000 in
theorem gX11_bribes_X11_isVerdict : GoodIn wsX11_bribes (va_wsS RX11 422 yX11_isVerdict wsX11_isVerdict) := goodIn_app (goodIn_of _ (by decide +kernel)) ggX11_bribes_X11_isVerdict
set_option maxRecDepth 20000 in
theorem ggX11_bribes_X11_isIn : GoodIn wsX11_bribes wsX11_isIn := goodIn_r _ [13] (by decide +kernel) (by decide +kernel)
set_option maxRecDepth 20000 in
theorem gX11_bribes_X11_isIn : GoodIn wsX11_bribes (va_wsS RX11 106 yX11_isIn wsX11_isIn) := goodIn_app (goodIn_of _ (by decide +kernel)) ggX11_bribes_X11_isIn
set_option maxRecDepth 20000 in
theorem ggX11_bribes_X11_refuse : GoodIn wsX11_bribes wsX11_refuse := goodIn_r _ [17, 2, 70, 71, 72, 73, 74, 75, 76, 77, 78, 79, 80, 81, 82, 83, 84, 85, 86, 87, 88, 89, 90, 91, 92, 93, 94, 95, 96, 97, 98, 99, 100, 101, 102, 103, 104, 105, 106, 107, 108, 109, 110, 111, 112, 113, 114, 115] (by decide +kernel) (by decide +kernel)
set_option maxRecDepth 20000 in
theorem gX11_bribes_X11_refuse : GoodIn wsX11_bribes (wsV RX11 340 RX11 yX11_refuse wsX11_refuse) := goodIn_app (goodIn_of _ (by decide +kernel)) ggX11_bribes_X11_refuse
set_option maxRecDepth 20000 in
theorem ggX11_bribes_X11_has : GoodIn wsX11_bribes wsX11_has := goodIn_r _ [20] (by decide +kernel) (by decide +kernel)
set_option maxRecDepth 20000 in
theorem gX11_bribes_X11_has : GoodIn wsX11_bribes (va_wsS RX11 110 yX11_has wsX11_has) := goodIn_app (goodIn_of _ (by decide +kernel)) ggX11_bribes_X11_has
set_option maxRecDepth 20000 in
theorem ggX11_bribes_X11_keeps : GoodIn wsX11_bribes wsX11_keeps := goodIn_r _ [24, 25, 4, 70, 71, 72, 73, 74, 75, 76, 77, 78, 79, 80, 81, 82, 83, 84, 85, 86, 87, 88, 89, 90, 91, 92, 93, 94, 95, 96, 97, 98, 99, 100, 101, 102, 103, 104, 105, 106, 107, 108, 109, 110, 111, 112, 113, 114, 115] (by decide +kernel) (by decide +kernel)
set_option maxRecDepth 20000 in
theorem gX11_bribes_X11_keeps : GoodIn wsX11_bribes (wsV RX11 411 RX11 yX11_keeps wsX11_keeps) := goodIn_app (goodIn_of _ (by decide +kernel)) ggX11_bribes_X11_keeps
set_option maxRecDepth 20000 in
theorem ggX11_bribes_X11_talksFor : GoodIn wsX11_bribes wsX11_talksFor := goodIn_r _ [29, 30, 31, 32, 8, 33, 4, 34, 35, 36, 37, 18, 19, 20, 38, 39, 40, 41, 42, 43, 44, 45, 46, 47, 48, 49, 50, 51, 52, 53, 54, 55, 56, 57, 58, 70, 71, 72, 73, 74, 75, 76, 77, 78, 79, 80, 81, 82, 83, 84, 85, 86, 87, 88, 89, 90, 91, 92, 93, 94, 95, 96, 97, 98, 99, 100, 101, 102, 103, 104, 105, 106, 107, 108, 109, 110, 111, 112, 113, 114, 115] (by decide +kernel) (by decide +kernel)
set_option maxRecDepth 20000 in
theorem gX11_bribes_X11_talksFor : GoodIn wsX11_bribes (wsV RX11 386 RX11 yX11_talksFor wsX11_talksFor) := goodIn_app (goodIn_of _ (by decide +kernel)) ggX11_bribes_X11_talksFor
set_option maxRecDepth 20000 in
theorem ggX11_bribes_X11_judged : GoodIn wsX11_bribes wsX11_judged := goodIn_r _ [62, 4, 55, 56, 57, 8, 58, 34, 35, 36, 37, 18, 19, 20, 63, 64, 65, 70, 71, 72, 73, 74, 75, 76, 77, 78, 79, 80, 81, 82, 83, 84, 85, 86, 87, 88, 89, 90, 91, 92, 93, 94, 95, 96, 97, 98, 99, 100, 101, 102, 103, 104, 105, 106, 107, 108, 109, 110, 111, 112, 113, 114, 115] (by decide +kernel) (by decide +kernel)
set_option maxRecDepth 20000 in
theorem gX11_bribes_X11_judged : GoodIn wsX11_bribes (wsV RX11 389 RX11 yX11_judged wsX11_judged) := goodIn_app (goodIn_of _ (by decide +kernel)) ggX11_bribes_X11_judged
set_option maxRecDepth 20000 in
theorem ggX11_bribes_X11_gives : GoodIn wsX11_bribes wsX11_gives := goodIn_r _ [69, 4, 25, 70, 71, 72, 73, 74, 75, 76, 77, 78, 79, 80, 81, 82, 83, 84, 85, 86, 87, 88, 89, 90, 91, 92, 93, 94, 95, 96, 97, 98, 99, 100, 101, 102, 103, 104, 105, 106, 107, 108, 109, 110, 111, 112, 113, 114, 115] (by decide +kernel) (by decide +kernel)
set_option maxRecDepth 20000 in
theorem gX11_bribes_X11_gives : GoodIn wsX11_bribes (wsV RX11 417 RX11 yX11_gives wsX11_gives) := goodIn_app (goodIn_of _ (by decide +kernel)) ggX11_bribes_X11_gives
theorem dX11_bribes_0 : decode cX11_bribes 0 = .ok (.aload_n 0, 1) := by decide +kernel
theorem dX11_bribes_1 : decode cX11_bribes 1 = .ok (.iconst 0, 1) := by decide +kernel
theorem dX11_bribes_2 : decode cX11_bribes 2 = .ok (.putfield 71, 3) := by decide +kernel
theorem dX11_bribes_5 : decode cX11_bribes 5 = .ok (.aload_n 0, 1) := by decide +kernel
theorem dX11_bribes_6 : decode cX11_bribes 6 = .ok (.iconst 0, 1) := by decide +kernel
theorem dX11_bribes_7 : decode cX11_bribes 7 = .ok (.putfield 74, 3) := by decide +kernel
theorem dX11_bribes_10 : decode cX11_bribes 10 = .ok (.iload_n 1, 1) := by decide +kernel
theorem dX11_bribes_11 : decode cX11_bribes 11 = .ok (.i2l, 1) := by decide +kernel
theorem dX11_bribes_12 : decode cX11_bribes 12 = .ok (.invokestatic 422, 3) := by decide +kernel
theorem dX11_bribes_15 : decode cX11_bribes 15 = .ok (.ifCond .eq 25, 3) := by decide +kernel
theorem dX11_bribes_18 : decode cX11_bribes 18 = .ok (.iload_n 2, 1) := by decide +kernel
theorem dX11_bribes_19 : decode cX11_bribes 19 = .ok (.iconst 1, 1) := by decide +kernel
theorem dX11_bribes_20 : decode cX11_bribes 20 = .ok (.if_icmp .eq 8, 3) := by decide +kernel
theorem dX11_bribes_23 : decode cX11_bribes 23 = .ok (.iload_n 2, 1) := by decide +kernel
theorem dX11_bribes_24 : decode cX11_bribes 24 = .ok (.iconst (-1), 1) := by decide +kernel
theorem dX11_bribes_25 : decode cX11_bribes 25 = .ok (.if_icmp .ne 15, 3) := by decide +kernel
theorem dX11_bribes_28 : decode cX11_bribes 28 = .ok (.iload_n 3, 1) := by decide +kernel
theorem dX11_bribes_29 : decode cX11_bribes 29 = .ok (.i2l, 1) := by decide +kernel
theorem dX11_bribes_30 : decode cX11_bribes 30 = .ok (.lconst 0, 1) := by decide +kernel
theorem dX11_bribes_31 : decode cX11_bribes 31 = .ok (.ldc2_w 429, 3) := by decide +kernel
theorem dX11_bribes_34 : decode cX11_bribes 34 = .ok (.invokestatic 106, 3) := by decide +kernel
theorem dX11_bribes_37 : decode cX11_bribes 37 = .ok (.ifCond .ne 9, 3) := by decide +kernel
theorem dX11_bribes_40 : decode cX11_bribes 40 = .ok (.aload_n 0, 1) := by decide +kernel
theorem dX11_bribes_41 : decode cX11_bribes 41 = .ok (.iconst 5, 1) := by decide +kernel
theorem dX11_bribes_42 : decode cX11_bribes 42 = .ok (.invokevirtual 340, 3) := by decide +kernel
theorem dX11_bribes_45 : decode cX11_bribes 45 = .ok (.ireturn, 1) := by decide +kernel
theorem dX11_bribes_46 : decode cX11_bribes 46 = .ok (.iconst (-1), 1) := by decide +kernel
theorem dX11_bribes_47 : decode cX11_bribes 47 = .ok (.istore 4, 2) := by decide +kernel
theorem dX11_bribes_49 : decode cX11_bribes 49 = .ok (.iconst 0, 1) := by decide +kernel
theorem dX11_bribes_50 : decode cX11_bribes 50 = .ok (.istore 5, 2) := by decide +kernel
theorem dX11_bribes_52 : decode cX11_bribes 52 = .ok (.iconst 0, 1) := by decide +kernel
theorem dX11_bribes_53 : decode cX11_bribes 53 = .ok (.istore 6, 2) := by decide +kernel
theorem dX11_bribes_55 : decode cX11_bribes 55 = .ok (.iload 6, 2) := by decide +kernel
theorem dX11_bribes_57 : decode cX11_bribes 57 = .ok (.iconst 1, 1) := by decide +kernel
theorem dX11_bribes_58 : decode cX11_bribes 58 = .ok (.aload_n 0, 1) := by decide +kernel
theorem dX11_bribes_59 : decode cX11_bribes 59 = .ok (.getfield 35, 3) := by decide +kernel
theorem dX11_bribes_62 : decode cX11_bribes 62 = .ok (.iconst 0, 1) := by decide +kernel
theorem dX11_bribes_63 : decode cX11_bribes 63 = .ok (.iaload, 1) := by decide +kernel
theorem dX11_bribes_64 : decode cX11_bribes 64 = .ok (.ishl, 1) := by decide +kernel
theorem dX11_bribes_65 : decode cX11_bribes 65 = .ok (.if_icmp .ge 182, 3) := by decide +kernel
theorem dX11_bribes_68 : decode cX11_bribes 68 = .ok (.iload 6, 2) := by decide +kernel
theorem dX11_bribes_70 : decode cX11_bribes 70 = .ok (.aload_n 0, 1) := by decide +kernel
theorem dX11_bribes_71 : decode cX11_bribes 71 = .ok (.getfield 35, 3) := by decide +kernel
theorem dX11_bribes_74 : decode cX11_bribes 74 = .ok (.bipush 10, 2) := by decide +kernel
theorem dX11_bribes_76 : decode cX11_bribes 76 = .ok (.iaload, 1) := by decide +kernel
theorem dX11_bribes_77 : decode cX11_bribes 77 = .ok (.iconst (-1), 1) := by decide +kernel
theorem dX11_bribes_78 : decode cX11_bribes 78 = .ok (.ixor, 1) := by decide +kernel
theorem dX11_bribes_79 : decode cX11_bribes 79 = .ok (.iand, 1) := by decide +kernel
theorem dX11_bribes_80 : decode cX11_bribes 80 = .ok (.ifCond .eq 6, 3) := by decide +kernel
theorem dX11_bribes_83 : decode cX11_bribes 83 = .ok (.goto 158, 3) := by decide +kernel
theorem dX11_bribes_86 : decode cX11_bribes 86 = .ok (.iconst 0, 1) := by decide +kernel
theorem dX11_bribes_87 : decode cX11_bribes 87 = .ok (.istore 7, 2) := by decide +kernel
theorem dX11_bribes_89 : decode cX11_bribes 89 = .ok (.iconst 0, 1) := by decide +kernel
theorem dX11_bribes_90 : decode cX11_bribes 90 = .ok (.istore 8, 2) := by decide +kernel
theorem dX11_bribes_92 : decode cX11_bribes 92 = .ok (.iload 8, 2) := by decide +kernel
theorem dX11_bribes_94 : decode cX11_bribes 94 = .ok (.aload_n 0, 1) := by decide +kernel
theorem dX11_bribes_95 : decode cX11_bribes 95 = .ok (.getfield 35, 3) := by decide +kernel
theorem dX11_bribes_98 : decode cX11_bribes 98 = .ok (.iconst 0, 1) := by decide +kernel
theorem dX11_bribes_99 : decode cX11_bribes 99 = .ok (.iaload, 1) := by decide +kernel
theorem dX11_bribes_100 : decode cX11_bribes 100 = .ok (.if_icmp .ge 38, 3) := by decide +kernel
theorem dX11_bribes_103 : decode cX11_bribes 103 = .ok (.iload 7, 2) := by decide +kernel
theorem dX11_bribes_105 : decode cX11_bribes 105 = .ok (.iload 6, 2) := by decide +kernel
theorem dX11_bribes_107 : decode cX11_bribes 107 = .ok (.iload 8, 2) := by decide +kernel
theorem dX11_bribes_109 : decode cX11_bribes 109 = .ok (.invokestatic 110, 3) := by decide +kernel
theorem dX11_bribes_112 : decode cX11_bribes 112 = .ok (.ifCond .eq 16, 3) := by decide +kernel
theorem dX11_bribes_115 : decode cX11_bribes 115 = .ok (.aload_n 0, 1) := by decide +kernel
theorem dX11_bribes_116 : decode cX11_bribes 116 = .ok (.getfield 35, 3) := by decide +kernel
theorem dX11_bribes_119 : decode cX11_bribes 119 = .ok (.bipush 32, 2) := by decide +kernel
theorem dX11_bribes_121 : decode cX11_bribes 121 = .ok (.iload 8, 2) := by decide +kernel
theorem dX11_bribes_123 : decode cX11_bribes 123 = .ok (.iadd, 1) := by decide +kernel
theorem dX11_bribes_124 : decode cX11_bribes 124 = .ok (.iaload, 1) := by decide +kernel
theorem dX11_bribes_125 : decode cX11_bribes 125 = .ok (.goto 4, 3) := by decide +kernel
theorem dX11_bribes_128 : decode cX11_bribes 128 = .ok (.iconst 0, 1) := by decide +kernel
theorem dX11_bribes_129 : decode cX11_bribes 129 = .ok (.iadd, 1) := by decide +kernel
theorem dX11_bribes_130 : decode cX11_bribes 130 = .ok (.istore 7, 2) := by decide +kernel
theorem dX11_bribes_132 : decode cX11_bribes 132 = .ok (.iinc 8 1, 3) := by decide +kernel
theorem dX11_bribes_135 : decode cX11_bribes 135 = .ok (.goto (-43), 3) := by decide +kernel
theorem dX11_bribes_138 : decode cX11_bribes 138 = .ok (.iload 4, 2) := by decide +kernel
theorem dX11_bribes_140 : decode cX11_bribes 140 = .ok (.ifCond .lt 13, 3) := by decide +kernel
theorem dX11_bribes_143 : decode cX11_bribes 143 = .ok (.iload 7, 2) := by decide +kernel
theorem dX11_bribes_145 : decode cX11_bribes 145 = .ok (.iload 5, 2) := by decide +kernel
theorem dX11_bribes_147 : decode cX11_bribes 147 = .ok (.if_icmp .lt 6, 3) := by decide +kernel
theorem dX11_bribes_150 : decode cX11_bribes 150 = .ok (.goto 91, 3) := by decide +kernel
theorem dX11_bribes_153 : decode cX11_bribes 153 = .ok (.aload_n 0, 1) := by decide +kernel
theorem dX11_bribes_154 : decode cX11_bribes 154 = .ok (.invokevirtual 411, 3) := by decide +kernel
theorem dX11_bribes_157 : decode cX11_bribes 157 = .ok (.iconst 0, 1) := by decide +kernel
theorem dX11_bribes_158 : decode cX11_bribes 158 = .ok (.istore 8, 2) := by decide +kernel
theorem dX11_bribes_160 : decode cX11_bribes 160 = .ok (.iload 8, 2) := by decide +kernel
theorem dX11_bribes_162 : decode cX11_bribes 162 = .ok (.aload_n 0, 1) := by decide +kernel
theorem dX11_bribes_163 : decode cX11_bribes 163 = .ok (.getfield 35, 3) := by decide +kernel
theorem dX11_bribes_166 : decode cX11_bribes 166 = .ok (.iconst 0, 1) := by decide +kernel
theorem dX11_bribes_167 : decode cX11_bribes 167 = .ok (.iaload, 1) := by decide +kernel
theorem dX11_bribes_168 : decode cX11_bribes 168 = .ok (.if_icmp .ge 33, 3) := by decide +kernel
theorem dX11_bribes_171 : decode cX11_bribes 171 = .ok (.iload 6, 2) := by decide +kernel
theorem dX11_bribes_173 : decode cX11_bribes 173 = .ok (.iload 8, 2) := by decide +kernel
theorem dX11_bribes_175 : decode cX11_bribes 175 = .ok (.invokestatic 110, 3) := by decide +kernel
theorem dX11_bribes_178 : decode cX11_bribes 178 = .ok (.ifCond .eq 17, 3) := by decide +kernel
theorem dX11_bribes_181 : decode cX11_bribes 181 = .ok (.aload_n 0, 1) := by decide +kernel
theorem dX11_bribes_182 : decode cX11_bribes 182 = .ok (.getfield 35, 3) := by decide +kernel
theorem dX11_bribes_185 : decode cX11_bribes 185 = .ok (.bipush 42, 2) := by decide +kernel
theorem dX11_bribes_187 : decode cX11_bribes 187 = .ok (.iload 8, 2) := by decide +kernel
theorem dX11_bribes_189 : decode cX11_bribes 189 = .ok (.iadd, 1) := by decide +kernel
theorem dX11_bribes_190 : decode cX11_bribes 190 = .ok (.bipush 99, 2) := by decide +kernel
theorem dX11_bribes_192 : decode cX11_bribes 192 = .ok (.iload_n 2, 1) := by decide +kernel
theorem dX11_bribes_193 : decode cX11_bribes 193 = .ok (.imul, 1) := by decide +kernel
theorem dX11_bribes_194 : decode cX11_bribes 194 = .ok (.iastore, 1) := by decide +kernel
theorem dX11_bribes_195 : decode cX11_bribes 195 = .ok (.iinc 8 1, 3) := by decide +kernel
theorem dX11_bribes_198 : decode cX11_bribes 198 = .ok (.goto (-38), 3) := by decide +kernel
theorem dX11_bribes_201 : decode cX11_bribes 201 = .ok (.aload_n 0, 1) := by decide +kernel
theorem dX11_bribes_202 : decode cX11_bribes 202 = .ok (.iload_n 3, 1) := by decide +kernel
theorem dX11_bribes_203 : decode cX11_bribes 203 = .ok (.invokevirtual 386, 3) := by decide +kernel
theorem dX11_bribes_206 : decode cX11_bribes 206 = .ok (.aload_n 0, 1) := by decide +kernel
theorem dX11_bribes_207 : decode cX11_bribes 207 = .ok (.invokevirtual 389, 3) := by decide +kernel
theorem dX11_bribes_210 : decode cX11_bribes 210 = .ok (.iload_n 1, 1) := by decide +kernel
theorem dX11_bribes_211 : decode cX11_bribes 211 = .ok (.if_icmp .ne 7, 3) := by decide +kernel
theorem dX11_bribes_214 : decode cX11_bribes 214 = .ok (.iconst 1, 1) := by decide +kernel
theorem dX11_bribes_215 : decode cX11_bribes 215 = .ok (.goto 4, 3) := by decide +kernel
theorem dX11_bribes_218 : decode cX11_bribes 218 = .ok (.iconst 0, 1) := by decide +kernel
theorem dX11_bribes_219 : decode cX11_bribes 219 = .ok (.istore 8, 2) := by decide +kernel
theorem dX11_bribes_221 : decode cX11_bribes 221 = .ok (.aload_n 0, 1) := by decide +kernel
theorem dX11_bribes_222 : decode cX11_bribes 222 = .ok (.invokevirtual 417, 3) := by decide +kernel
theorem dX11_bribes_225 : decode cX11_bribes 225 = .ok (.iload 8, 2) := by decide +kernel
theorem dX11_bribes_227 : decode cX11_bribes 227 = .ok (.ifCond .ne 6, 3) := by decide +kernel
theorem dX11_bribes_230 : decode cX11_bribes 230 = .ok (.goto 11, 3) := by decide +kernel
theorem dX11_bribes_233 : decode cX11_bribes 233 = .ok (.iload 6, 2) := by decide +kernel
theorem dX11_bribes_235 : decode cX11_bribes 235 = .ok (.istore 4, 2) := by decide +kernel
theorem dX11_bribes_237 : decode cX11_bribes 237 = .ok (.iload 7, 2) := by decide +kernel
theorem dX11_bribes_239 : decode cX11_bribes 239 = .ok (.istore 5, 2) := by decide +kernel
theorem dX11_bribes_241 : decode cX11_bribes 241 = .ok (.iinc 6 1, 3) := by decide +kernel
theorem dX11_bribes_244 : decode cX11_bribes 244 = .ok (.goto (-189), 3) := by decide +kernel
theorem dX11_bribes_247 : decode cX11_bribes 247 = .ok (.iload 4, 2) := by decide +kernel
theorem dX11_bribes_249 : decode cX11_bribes 249 = .ok (.ifCond .ge 10, 3) := by decide +kernel
theorem dX11_bribes_252 : decode cX11_bribes 252 = .ok (.aload_n 0, 1) := by decide +kernel
theorem dX11_bribes_253 : decode cX11_bribes 253 = .ok (.bipush 8, 2) := by decide +kernel
theorem dX11_bribes_255 : decode cX11_bribes 255 = .ok (.invokevirtual 340, 3) := by decide +kernel
theorem dX11_bribes_258 : decode cX11_bribes 258 = .ok (.ireturn, 1) := by decide +kernel
theorem dX11_bribes_259 : decode cX11_bribes 259 = .ok (.aload_n 0, 1) := by decide +kernel
theorem dX11_bribes_260 : decode cX11_bribes 260 = .ok (.iload 4, 2) := by decide +kernel
theorem dX11_bribes_262 : decode cX11_bribes 262 = .ok (.putfield 59, 3) := by decide +kernel
theorem dX11_bribes_265 : decode cX11_bribes 265 = .ok (.iload 5, 2) := by decide +kernel
theorem dX11_bribes_267 : decode cX11_bribes 267 = .ok (.ireturn, 1) := by decide +kernel
set_option maxRecDepth 20000 in
theorem ggX11_bribeSet_X11_refuse : GoodIn wsX11_bribeSet wsX11_refuse := goodIn_r _ [8, 2, 9, 10, 11, 12, 13, 14, 15, 16, 17, 18, 19, 20, 21, 22, 23, 24, 25, 26, 27, 28, 29, 30, 31, 32, 33, 34, 35, 36, 37, 38, 39, 40, 41, 42, 43, 44, 45, 46, 47, 48, 49, 50, 51, 52, 53, 54] (by decide +kernel) (by decide +kernel)
set_option maxRecDepth 20000 in
theorem gX11_bribeSet_X11_refuse : GoodIn wsX11_bribeSet (wsV RX11 340 RX11 yX11_refuse wsX11_refuse) := goodIn_app (goodIn_of _ (by decide +kernel)) ggX11_bribeSet_X11_refuse
theorem dX11_bribeSet_0 : decode cX11_bribeSet 0 = .ok (.aload_n 0, 1) := by decide +kernel
theorem dX11_bribeSet_1 : decode cX11_bribeSet 1 = .ok (.iconst 0, 1) := by decide +kernel
theorem dX11_bribeSet_2 : decode cX11_bribeSet 2 = .ok (.putfield 71, 3) := by decide +kernel
theorem dX11_bribeSet_5 : decode cX11_bribeSet 5 = .ok (.aload_n 0, 1) := by decide +kernel
theorem dX11_bribeSet_6 : decode cX11_bribeSet 6 = .ok (.iconst 0, 1) := by decide +kernel
theorem dX11_bribeSet_7 : decode cX11_bribeSet 7 = .ok (.putfield 74, 3) := by decide +kernel
theorem dX11_bribeSet_10 : decode cX11_bribeSet 10 = .ok (.aload_n 0, 1) := by decide +kernel
theorem dX11_bribeSet_11 : decode cX11_bribeSet 11 = .ok (.getfield 59, 3) := by decide +kernel
theorem dX11_bribeSet_14 : decode cX11_bribeSet 14 = .ok (.ifCond .ge 12, 3) := by decide +kernel
theorem dX11_bribeSet_17 : decode cX11_bribeSet 17 = .ok (.aload_n 0, 1) := by decide +kernel
theorem dX11_bribeSet_18 : decode cX11_bribeSet 18 = .ok (.bipush 8, 2) := by decide +kernel
theorem dX11_bribeSet_20 : decode cX11_bribeSet 20 = .ok (.invokevirtual 340, 3) := by decide +kernel
theorem dX11_bribeSet_23 : decode cX11_bribeSet 23 = .ok (.goto 7, 3) := by decide +kernel
theorem dX11_bribeSet_26 : decode cX11_bribeSet 26 = .ok (.aload_n 0, 1) := by decide +kernel
theorem dX11_bribeSet_27 : decode cX11_bribeSet 27 = .ok (.getfield 59, 3) := by decide +kernel
theorem dX11_bribeSet_30 : decode cX11_bribeSet 30 = .ok (.ireturn, 1) := by decide +kernel
set_option maxRecDepth 20000 in
theorem ggX11_plays_X11_judged : GoodIn wsX11_plays wsX11_judged := goodIn_r _ [7, 1, 8, 9, 10, 6, 11, 12, 13, 14, 15, 16, 17, 18, 19, 20, 21, 33, 34, 35, 36, 37, 38, 39, 40, 41, 42, 43, 44, 45, 46, 47, 48, 49, 50, 51, 52, 53, 54, 55, 56, 57, 58, 59, 60, 61, 62, 63, 64, 65, 66, 67, 68, 69, 70, 71, 72, 73, 74, 75, 76, 77, 78] (by decide +kernel) (by decide +kernel)
set_option maxRecDepth 20000 in
theorem gX11_plays_X11_judged : GoodIn wsX11_plays (wsV RX11 389 RX11 yX11_judged wsX11_judged) := goodIn_app (goodIn_of _ (by decide +kernel)) ggX11_plays_X11_judged
set_option maxRecDepth 20000 in
theorem ggX11_plays_X11_strikesOne : GoodIn wsX11_plays wsX11_strikesOne := goodIn_r _ [25, 1, 12, 13, 14, 6, 15, 16, 17, 18, 33, 34, 35, 36, 37, 38, 39, 40, 41, 42, 43, 44, 45, 46, 47, 48, 49, 50, 51, 52, 53, 54, 55, 56, 57, 58, 59, 60, 61, 62, 63, 64, 65, 66, 67, 68, 69, 70, 71, 72, 73, 74, 75, 76, 77, 78] (by decide +kernel) (by decide +kernel)
set_option maxRecDepth 20000 in
theorem gX11_plays_X11_strikesOne : GoodIn wsX11_plays (wsV RX11 395 RX11 yX11_strikesOne wsX11_strikesOne) := goodIn_app (goodIn_of _ (by decide +kernel)) ggX11_plays_X11_strikesOne
set_option maxRecDepth 20000 in
theorem ggX11_plays_X11_plays : GoodIn wsX11_plays wsX11_plays := goodIn_r _ [0, 1, 2, 3, 4, 5, 6, 7, 8, 9, 10, 11, 12, 13, 14, 15, 16, 17, 18, 19, 20, 21, 22, 23, 24, 25, 26, 27, 28, 29, 30, 31, 32, 33, 34, 35, 36, 37, 38, 39, 40, 41, 42, 43, 44, 45, 46, 47, 48, 49, 50, 51, 52, 53, 54, 55, 56, 57, 58, 59, 60, 61, 62, 63, 64, 65, 66, 67, 68, 69, 70, 71, 72, 73, 74, 75, 76, 77, 78] (by decide +kernel) (by decide +kernel)
set_option maxRecDepth 20000 in
theorem gX11_plays_X11_plays : GoodIn wsX11_plays (wsV RX11 431 RX11 yX11_plays wsX11_plays) := goodIn_app (goodIn_of _ (by decide +kernel)) ggX11_plays_X11_plays
set_option maxRecDepth 20000 in
theorem ggX11_plays_X11_seatsOne : GoodIn wsX11_plays wsX11_seatsOne := goodIn_r _ [32, 1, 12, 13, 14, 6, 15, 16, 17, 18, 33, 34, 35, 36, 37, 38, 39, 40, 41, 42, 43, 44, 45, 46, 47, 48, 49, 50, 51, 52, 53, 54, 55, 56, 57, 58, 59, 60, 61, 62, 63, 64, 65, 66, 67, 68, 69, 70, 71, 72, 73, 74, 75, 76, 77, 78] (by decide +kernel) (by decide +kernel)
set_option maxRecDepth 20000 in
theorem gX11_plays_X11_seatsOne : GoodIn wsX11_plays (wsV RX11 398 RX11 yX11_seatsOne wsX11_seatsOne) := goodIn_app (goodIn_of _ (by decide +kernel)) ggX11_plays_X11_seatsOne
theorem dX11_plays_0 : decode cX11_plays 0 = .ok (.iload_n 1, 1) := by decide +kernel
theorem dX11_plays_1 : decode cX11_plays 1 = .ok (.ifCond .ne 8, 3) := by decide +kernel
theorem dX11_plays_4 : decode cX11_plays 4 = .ok (.aload_n 0, 1) := by decide +kernel
theorem dX11_plays_5 : decode cX11_plays 5 = .ok (.invokevirtual 389, 3) := by decide +kernel
theorem dX11_plays_8 : decode cX11_plays 8 = .ok (.ireturn, 1) := by decide +kernel
theorem dX11_plays_9 : decode cX11_plays 9 = .ok (.bipush 9, 2) := by decide +kernel
theorem dX11_plays_11 : decode cX11_plays 11 = .ok (.istore 4, 2) := by decide +kernel
theorem dX11_plays_13 : decode cX11_plays 13 = .ok (.iconst 0, 1) := by decide +kernel
theorem dX11_plays_14 : decode cX11_plays 14 = .ok (.istore 5, 2) := by decide +kernel
theorem dX11_plays_16 : decode cX11_plays 16 = .ok (.iload 5, 2) := by decide +kernel
theorem dX11_plays_18 : decode cX11_plays 18 = .ok (.aload_n 0, 1) := by decide +kernel
theorem dX11_plays_19 : decode cX11_plays 19 = .ok (.getfield 35, 3) := by decide +kernel
theorem dX11_plays_22 : decode cX11_plays 22 = .ok (.iconst 0, 1) := by decide +kernel
theorem dX11_plays_23 : decode cX11_plays 23 = .ok (.iaload, 1) := by decide +kernel
theorem dX11_plays_24 : decode cX11_plays 24 = .ok (.if_icmp .ge 67, 3) := by decide +kernel
theorem dX11_plays_27 : decode cX11_plays 27 = .ok (.aload_n 0, 1) := by decide +kernel
theorem dX11_plays_28 : decode cX11_plays 28 = .ok (.iload 5, 2) := by decide +kernel
theorem dX11_plays_30 : decode cX11_plays 30 = .ok (.invokevirtual 395, 3) := by decide +kernel
theorem dX11_plays_33 : decode cX11_plays 33 = .ok (.ifCond .ne 6, 3) := by decide +kernel
theorem dX11_plays_36 : decode cX11_plays 36 = .ok (.goto 49, 3) := by decide +kernel
theorem dX11_plays_39 : decode cX11_plays 39 = .ok (.aload_n 0, 1) := by decide +kernel
theorem dX11_plays_40 : decode cX11_plays 40 = .ok (.iload_n 1, 1) := by decide +kernel
theorem dX11_plays_41 : decode cX11_plays 41 = .ok (.iconst 1, 1) := by decide +kernel
theorem dX11_plays_42 : decode cX11_plays 42 = .ok (.isub, 1) := by decide +kernel
theorem dX11_plays_43 : decode cX11_plays 43 = .ok (.iload_n 2, 1) := by decide +kernel
theorem dX11_plays_44 : decode cX11_plays 44 = .ok (.ineg, 1) := by decide +kernel
theorem dX11_plays_45 : decode cX11_plays 45 = .ok (.iconst 0, 1) := by decide +kernel
theorem dX11_plays_46 : decode cX11_plays 46 = .ok (.invokevirtual 431, 3) := by decide +kernel
theorem dX11_plays_49 : decode cX11_plays 49 = .ok (.iload_n 2, 1) := by decide +kernel
theorem dX11_plays_50 : decode cX11_plays 50 = .ok (.ineg, 1) := by decide +kernel
theorem dX11_plays_51 : decode cX11_plays 51 = .ok (.imul, 1) := by decide +kernel
theorem dX11_plays_52 : decode cX11_plays 52 = .ok (.istore 6, 2) := by decide +kernel
theorem dX11_plays_54 : decode cX11_plays 54 = .ok (.aload_n 0, 1) := by decide +kernel
theorem dX11_plays_55 : decode cX11_plays 55 = .ok (.iload 5, 2) := by decide +kernel
theorem dX11_plays_57 : decode cX11_plays 57 = .ok (.invokevirtual 398, 3) := by decide +kernel
theorem dX11_plays_60 : decode cX11_plays 60 = .ok (.pop, 1) := by decide +kernel
theorem dX11_plays_61 : decode cX11_plays 61 = .ok (.iload 6, 2) := by decide +kernel
theorem dX11_plays_63 : decode cX11_plays 63 = .ok (.iload 4, 2) := by decide +kernel
theorem dX11_plays_65 : decode cX11_plays 65 = .ok (.if_icmp .lt 6, 3) := by decide +kernel
theorem dX11_plays_68 : decode cX11_plays 68 = .ok (.goto 17, 3) := by decide +kernel
theorem dX11_plays_71 : decode cX11_plays 71 = .ok (.iload 6, 2) := by decide +kernel
theorem dX11_plays_73 : decode cX11_plays 73 = .ok (.istore 4, 2) := by decide +kernel
theorem dX11_plays_75 : decode cX11_plays 75 = .ok (.iload_n 3, 1) := by decide +kernel
theorem dX11_plays_76 : decode cX11_plays 76 = .ok (.ifCond .eq 9, 3) := by decide +kernel
theorem dX11_plays_79 : decode cX11_plays 79 = .ok (.aload_n 0, 1) := by decide +kernel
theorem dX11_plays_80 : decode cX11_plays 80 = .ok (.iload 5, 2) := by decide +kernel
theorem dX11_plays_82 : decode cX11_plays 82 = .ok (.putfield 435, 3) := by decide +kernel
theorem dX11_plays_85 : decode cX11_plays 85 = .ok (.iinc 5 1, 3) := by decide +kernel
theorem dX11_plays_88 : decode cX11_plays 88 = .ok (.goto (-72), 3) := by decide +kernel
theorem dX11_plays_91 : decode cX11_plays 91 = .ok (.iload 4, 2) := by decide +kernel
theorem dX11_plays_93 : decode cX11_plays 93 = .ok (.iload_n 2, 1) := by decide +kernel
theorem dX11_plays_94 : decode cX11_plays 94 = .ok (.ineg, 1) := by decide +kernel
theorem dX11_plays_95 : decode cX11_plays 95 = .ok (.imul, 1) := by decide +kernel
theorem dX11_plays_96 : decode cX11_plays 96 = .ok (.ireturn, 1) := by decide +kernel
set_option maxRecDepth 20000 in
theorem ggX11_whyNoStrikes_X11_isIn : GoodIn wsX11_whyNoStrikes wsX11_isIn := goodIn_r _ [6] (by decide +kernel) (by decide +kernel)
set_option maxRecDepth 20000 in
theorem gX11_whyNoStrikes_X11_isIn : GoodIn wsX11_whyNoStrikes (va_wsS RX11 106 yX11_isIn wsX11_isIn) := goodIn_app (goodIn_of _ (by decide +kernel)) ggX11_whyNoStrikes_X11_isIn
set_option maxRecDepth 20000 in
theorem ggX11_whyNoStrikes_X11_sizeOf : GoodIn wsX11_whyNoStrikes wsX11_sizeOf := goodIn_r _ [9, 10, 11, 5, 12] (by decide +kernel) (by decide +kernel)
set_option maxRecDepth 20000 in
theorem gX11_whyNoStrikes_X11_sizeOf : GoodIn wsX11_whyNoStrikes (va_wsS RX11 438 yX11_sizeOf wsX11_sizeOf) := goodIn_app (goodIn_of _ (by decide +kernel)) ggX11_whyNoStrikes_X11_sizeOf
theorem dX11_whyNoStrikes_0 : decode cX11_whyNoStrikes 0 = .ok (.iload_n 1, 1) := by decide +kernel
theorem dX11_whyNoStrikes_1 : decode cX11_whyNoStrikes 1 = .ok (.i2l, 1) := by decide +kernel
theorem dX11_whyNoStrikes_2 : decode cX11_whyNoStrikes 2 = .ok (.lconst 1, 1) := by decide +kernel
theorem dX11_whyNoStrikes_3 : decode cX11_whyNoStrikes 3 = .ok (.ldc2_w 104, 3) := by decide +kernel
theorem dX11_whyNoStrikes_6 : decode cX11_whyNoStrikes 6 = .ok (.invokestatic 106, 3) := by decide +kernel
theorem dX11_whyNoStrikes_9 : decode cX11_whyNoStrikes 9 = .ok (.ifCond .ne 7, 3) := by decide +kernel
theorem dX11_whyNoStrikes_12 : decode cX11_whyNoStrikes 12 = .ok (.iconst 5, 1) := by decide +kernel
theorem dX11_whyNoStrikes_13 : decode cX11_whyNoStrikes 13 = .ok (.goto 25, 3) := by decide +kernel
theorem dX11_whyNoStrikes_16 : decode cX11_whyNoStrikes 16 = .ok (.aload_n 0, 1) := by decide +kernel
theorem dX11_whyNoStrikes_17 : decode cX11_whyNoStrikes 17 = .ok (.getfield 35, 3) := by decide +kernel
theorem dX11_whyNoStrikes_20 : decode cX11_whyNoStrikes 20 = .ok (.bipush 10, 2) := by decide +kernel
theorem dX11_whyNoStrikes_22 : decode cX11_whyNoStrikes 22 = .ok (.iaload, 1) := by decide +kernel
theorem dX11_whyNoStrikes_23 : decode cX11_whyNoStrikes 23 = .ok (.invokestatic 438, 3) := by decide +kernel
theorem dX11_whyNoStrikes_26 : decode cX11_whyNoStrikes 26 = .ok (.iconst 2, 1) := by decide +kernel
theorem dX11_whyNoStrikes_27 : decode cX11_whyNoStrikes 27 = .ok (.iload_n 1, 1) := by decide +kernel
theorem dX11_whyNoStrikes_28 : decode cX11_whyNoStrikes 28 = .ok (.imul, 1) := by decide +kernel
theorem dX11_whyNoStrikes_29 : decode cX11_whyNoStrikes 29 = .ok (.if_icmp .ge 8, 3) := by decide +kernel
theorem dX11_whyNoStrikes_32 : decode cX11_whyNoStrikes 32 = .ok (.bipush 9, 2) := by decide +kernel
theorem dX11_whyNoStrikes_34 : decode cX11_whyNoStrikes 34 = .ok (.goto 4, 3) := by decide +kernel
theorem dX11_whyNoStrikes_37 : decode cX11_whyNoStrikes 37 = .ok (.iconst 0, 1) := by decide +kernel
theorem dX11_whyNoStrikes_38 : decode cX11_whyNoStrikes 38 = .ok (.ireturn, 1) := by decide +kernel
set_option maxRecDepth 20000 in
theorem ggX11_strikes_X11_whyNoStrikes : GoodIn wsX11_strikes wsX11_whyNoStrikes := goodIn_r _ [7, 8, 9, 10, 11, 6, 12, 13, 14, 15, 16, 17, 18, 47, 48, 49, 50, 51, 52, 53, 54, 55, 56, 57, 58, 59, 60, 61, 62, 63, 64, 65, 66, 67, 68, 69, 70, 71, 72, 73, 74, 75, 76, 77, 78, 79, 80, 81, 82, 83, 84, 85, 86, 87, 88, 89, 90, 91, 92] (by decide +kernel) (by decide +kernel)
set_option maxRecDepth 20000 in
theorem gX11_strikes_X11_whyNoStrikes : GoodIn wsX11_strikes (wsV RX11 441 RX11 yX11_whyNoStrikes wsX11_whyNoStrikes) := goodIn_app (goodIn_of _ (by decide +kernel)) ggX11_strikes_X11_whyNoStrikes
set_option maxRecDepth 20000 in
theorem ggX11_strikes_X11_plays : GoodIn wsX11_strikes wsX11_plays := goodIn_r _ [22, 9, 23, 24, 25, 26, 6, 27, 28, 29, 30, 31, 32, 33, 34, 35, 16, 17, 18, 36, 37, 38, 39, 40, 41, 42, 19, 20, 21, 43, 44, 45, 46, 47, 48, 49, 50, 51, 52, 53, 54, 55, 56, 57, 58, 59, 60, 61, 62, 63, 64, 65, 66, 67, 68, 69, 70, 71, 72, 73, 74, 75, 76, 77, 78, 79, 80, 81, 82, 83, 84, 85, 86, 87, 88, 89, 90, 91, 92] (by decide +kernel) (by decide +kernel)
set_option maxRecDepth 20000 in
theorem gX11_strikes_X11_plays : GoodIn wsX11_strikes (wsV RX11 431 RX11 yX11_plays wsX11_plays) := goodIn_app (goodIn_of _ (by decide +kernel)) ggX11_strikes_X11_plays
theorem dX11_strikes_0 : decode cX11_strikes 0 = .ok (.aload_n 0, 1) := by decide +kernel
theorem dX11_strikes_1 : decode cX11_strikes 1 = .ok (.iconst 0, 1) := by decide +kernel
theorem dX11_strikes_2 : decode cX11_strikes 2 = .ok (.putfield 71, 3) := by decide +kernel
theorem dX11_strikes_5 : decode cX11_strikes 5 = .ok (.aload_n 0, 1) := by decide +kernel
theorem dX11_strikes_6 : decode cX11_strikes 6 = .ok (.aload_n 0, 1) := by decide +kernel
theorem dX11_strikes_7 : decode cX11_strikes 7 = .ok (.iload_n 1, 1) := by decide +kernel
theorem dX11_strikes_8 : decode cX11_strikes 8 = .ok (.invokevirtual 441, 3) := by decide +kernel
theorem dX11_strikes_11 : decode cX11_strikes 11 = .ok (.putfield 74, 3) := by decide +kernel
theorem dX11_strikes_14 : decode cX11_strikes 14 = .ok (.aload_n 0, 1) := by decide +kernel
theorem dX11_strikes_15 : decode cX11_strikes 15 = .ok (.getfield 74, 3) := by decide +kernel
theorem dX11_strikes_18 : decode cX11_strikes 18 = .ok (.ifCond .le 7, 3) := by decide +kernel
theorem dX11_strikes_21 : decode cX11_strikes 21 = .ok (.iconst (-1), 1) := by decide +kernel
theorem dX11_strikes_22 : decode cX11_strikes 22 = .ok (.goto 12, 3) := by decide +kernel
theorem dX11_strikes_25 : decode cX11_strikes 25 = .ok (.aload_n 0, 1) := by decide +kernel
theorem dX11_strikes_26 : decode cX11_strikes 26 = .ok (.iconst 2, 1) := by decide +kernel
theorem dX11_strikes_27 : decode cX11_strikes 27 = .ok (.iload_n 1, 1) := by decide +kernel
theorem dX11_strikes_28 : decode cX11_strikes 28 = .ok (.imul, 1) := by decide +kernel
theorem dX11_strikes_29 : decode cX11_strikes 29 = .ok (.iconst (-1), 1) := by decide +kernel
theorem dX11_strikes_30 : decode cX11_strikes 30 = .ok (.iconst 1, 1) := by decide +kernel
theorem dX11_strikes_31 : decode cX11_strikes 31 = .ok (.invokevirtual 431, 3) := by decide +kernel
theorem dX11_strikes_34 : decode cX11_strikes 34 = .ok (.ireturn, 1) := by decide +kernel
set_option maxRecDepth 20000 in
theorem ggX11_firstStrike_X11_whyNoStrikes : GoodIn wsX11_firstStrike wsX11_whyNoStrikes := goodIn_r _ [8, 9, 10, 11, 12, 7, 13, 14, 15, 16, 17, 18, 19, 47, 48, 49, 50, 51, 52, 53, 54, 55, 56, 57, 58, 59, 60, 61, 62, 63, 64, 65, 66, 67, 68, 69, 70, 71, 72, 73, 74, 75, 76, 77, 78, 79, 80, 81, 82, 83, 84, 85, 86, 87, 88, 89, 90, 91, 92] (by decide +kernel) (by decide +kernel)
set_option maxRecDepth 20000 in
theorem gX11_firstStrike_X11_whyNoStrikes : GoodIn wsX11_firstStrike (wsV RX11 441 RX11 yX11_whyNoStrikes wsX11_whyNoStrikes) := goodIn_app (goodIn_of _ (by decide +kernel)) ggX11_firstStrike_X11_whyNoStrikes
set_option maxRecDepth 20000 in
theorem ggX11_firstStrike_X11_plays : GoodIn wsX11_firstStrike wsX11_plays := goodIn_r _ [23, 10, 3, 24, 25, 26, 7, 27, 28, 29, 30, 31, 32, 33, 34, 35, 17, 18, 19, 36, 37, 38, 39, 40, 41, 42, 20, 21, 22, 43, 44, 45, 46, 47, 48, 49, 50, 51, 52, 53, 54, 55, 56, 57, 58, 59, 60, 61, 62, 63, 64, 65, 66, 67, 68, 69, 70, 71, 72, 73, 74, 75, 76, 77, 78, 79, 80, 81, 82, 83, 84, 85, 86, 87, 88, 89, 90, 91, 92] (by decide +kernel) (by decide +kernel)
set_option maxRecDepth 20000 in
theorem gX11_firstStrike_X11_plays : GoodIn wsX11_firstStrike (wsV RX11 431 RX11 yX11_plays wsX11_plays) := goodIn_app (goodIn_of _ (by decide +kernel)) ggX11_firstStrike_X11_plays
theorem dX11_firstStrike_0 : decode cX11_firstStrike 0 = .ok (.aload_n 0, 1) := by decide +kernel
theorem dX11_firstStrike_1 : decode cX11_firstStrike 1 = .ok (.iconst 0, 1) := by decide +kernel
theorem dX11_firstStrike_2 : decode cX11_firstStrike 2 = .ok (.putfield 71, 3) := by decide +kernel
theorem dX11_firstStrike_5 : decode cX11_firstStrike 5 = .ok (.aload_n 0, 1) := by decide +kernel
theorem dX11_firstStrike_6 : decode cX11_firstStrike 6 = .ok (.aload_n 0, 1) := by decide +kernel
theorem dX11_firstStrike_7 : decode cX11_firstStrike 7 = .ok (.iload_n 1, 1) := by decide +kernel
theorem dX11_firstStrike_8 : decode cX11_firstStrike 8 = .ok (.invokevirtual 441, 3) := by decide +kernel
theorem dX11_firstStrike_11 : decode cX11_firstStrike 11 = .ok (.putfield 74, 3) := by decide +kernel
theorem dX11_firstStrike_14 : decode cX11_firstStrike 14 = .ok (.aload_n 0, 1) := by decide +kernel
theorem dX11_firstStrike_15 : decode cX11_firstStrike 15 = .ok (.getfield 74, 3) := by decide +kernel
theorem dX11_firstStrike_18 : decode cX11_firstStrike 18 = .ok (.ifCond .le 5, 3) := by decide +kernel
theorem dX11_firstStrike_21 : decode cX11_firstStrike 21 = .ok (.iconst (-1), 1) := by decide +kernel
theorem dX11_firstStrike_22 : decode cX11_firstStrike 22 = .ok (.ireturn, 1) := by decide +kernel
theorem dX11_firstStrike_23 : decode cX11_firstStrike 23 = .ok (.aload_n 0, 1) := by decide +kernel
theorem dX11_firstStrike_24 : decode cX11_firstStrike 24 = .ok (.iconst 2, 1) := by decide +kernel
theorem dX11_firstStrike_25 : decode cX11_firstStrike 25 = .ok (.iload_n 1, 1) := by decide +kernel
theorem dX11_firstStrike_26 : decode cX11_firstStrike 26 = .ok (.imul, 1) := by decide +kernel
theorem dX11_firstStrike_27 : decode cX11_firstStrike 27 = .ok (.iconst (-1), 1) := by decide +kernel
theorem dX11_firstStrike_28 : decode cX11_firstStrike 28 = .ok (.iconst 1, 1) := by decide +kernel
theorem dX11_firstStrike_29 : decode cX11_firstStrike 29 = .ok (.invokevirtual 431, 3) := by decide +kernel
theorem dX11_firstStrike_32 : decode cX11_firstStrike 32 = .ok (.pop, 1) := by decide +kernel
theorem dX11_firstStrike_33 : decode cX11_firstStrike 33 = .ok (.aload_n 0, 1) := by decide +kernel
theorem dX11_firstStrike_34 : decode cX11_firstStrike 34 = .ok (.getfield 435, 3) := by decide +kernel
theorem dX11_firstStrike_37 : decode cX11_firstStrike 37 = .ok (.ireturn, 1) := by decide +kernel
set_option maxRecDepth 20000 in
theorem ggX11_drawn_X11_isIn : GoodIn wsX11_drawn wsX11_isIn := goodIn_r _ [8] (by decide +kernel) (by decide +kernel)
set_option maxRecDepth 20000 in
theorem gX11_drawn_X11_isIn : GoodIn wsX11_drawn (va_wsS RX11 106 yX11_isIn wsX11_isIn) := goodIn_app (goodIn_of _ (by decide +kernel)) ggX11_drawn_X11_isIn
set_option maxRecDepth 20000 in
theorem ggX11_drawn_X11_isVerdict : GoodIn wsX11_drawn wsX11_isVerdict := goodIn_r _ [11, 12, 5, 6, 7, 8] (by decide +kernel) (by decide +kernel)
set_option maxRecDepth 20000 in
theorem gX11_drawn_X11_isVerdict : GoodIn wsX11_drawn (va_wsS RX11 422 yX11_isVerdict wsX11_isVerdict) := goodIn_app (goodIn_of _ (by decide +kernel)) ggX11_drawn_X11_isVerdict
set_option maxRecDepth 20000 in
theorem ggX11_drawn_X11_no : GoodIn wsX11_drawn wsX11_no := goodIn_r _ [16, 2, 81, 82, 83, 84, 85, 86, 87, 88, 89, 90, 91, 92, 93, 94, 95, 96, 97, 98, 99, 100, 101, 102, 103, 104, 105, 106, 107, 108, 109, 110, 111, 112, 113, 114, 115, 116, 117, 118, 119, 120, 121, 122, 123, 124, 125, 126] (by decide +kernel) (by decide +kernel)
set_option maxRecDepth 20000 in
theorem gX11_drawn_X11_no : GoodIn wsX11_drawn (wsV RX11 86 RX11 yX11_no wsX11_no) := goodIn_app (goodIn_of _ (by decide +kernel)) ggX11_drawn_X11_no
set_option maxRecDepth 20000 in
theorem ggX11_drawn_X11_keeps : GoodIn wsX11_drawn wsX11_keeps := goodIn_r _ [20, 21, 3, 81, 82, 83, 84, 85, 86, 87, 88, 89, 90, 91, 92, 93, 94, 95, 96, 97, 98, 99, 100, 101, 102, 103, 104, 105, 106, 107, 108, 109, 110, 111, 112, 113, 114, 115, 116, 117, 118, 119, 120, 121, 122, 123, 124, 125, 126] (by decide +kernel) (by decide +kernel)
set_option maxRecDepth 20000 in
theorem gX11_drawn_X11_keeps : GoodIn wsX11_drawn (wsV RX11 411 RX11 yX11_keeps wsX11_keeps) := goodIn_app (goodIn_of _ (by decide +kernel)) ggX11_drawn_X11_keeps
set_option maxRecDepth 20000 in
theorem ggX11_drawn_X11_sizeOf : GoodIn wsX11_drawn wsX11_sizeOf := goodIn_r _ [24, 25, 26, 7, 27] (by decide +kernel) (by decide +kernel)
set_option maxRecDepth 20000 in
theorem gX11_drawn_X11_sizeOf : GoodIn wsX11_drawn (va_wsS RX11 438 yX11_sizeOf wsX11_sizeOf) := goodIn_app (goodIn_of _ (by decide +kernel)) ggX11_drawn_X11_sizeOf
set_option maxRecDepth 20000 in
theorem ggX11_drawn_X11_talksFor : GoodIn wsX11_drawn wsX11_talksFor := goodIn_r _ [31, 32, 33, 34, 7, 35, 3, 36, 37, 38, 39, 25, 26, 27, 40, 41, 42, 43, 44, 45, 46, 47, 48, 49, 50, 51, 52, 53, 54, 55, 56, 57, 58, 59, 60, 81, 82, 83, 84, 85, 86, 87, 88, 89, 90, 91, 92, 93, 94, 95, 96, 97, 98, 99, 100, 101, 102, 103, 104, 105, 106, 107, 108, 109, 110, 111, 112, 113, 114, 115, 116, 117, 118, 119, 120, 121, 122, 123, 124, 125, 126] (by decide +kernel) (by decide +kernel)
set_option maxRecDepth 20000 in
theorem gX11_drawn_X11_talksFor : GoodIn wsX11_drawn (wsV RX11 386 RX11 yX11_talksFor wsX11_talksFor) := goodIn_app (goodIn_of _ (by decide +kernel)) ggX11_drawn_X11_talksFor
set_option maxRecDepth 20000 in
theorem ggX11_drawn_X11_judged : GoodIn wsX11_drawn wsX11_judged := goodIn_r _ [64, 3, 57, 58, 59, 7, 60, 36, 37, 38, 39, 25, 26, 27, 65, 66, 67, 81, 82, 83, 84, 85, 86, 87, 88, 89, 90, 91, 92, 93, 94, 95, 96, 97, 98, 99, 100, 101, 102, 103, 104, 105, 106, 107, 108, 109, 110, 111, 112, 113, 114, 115, 116, 117, 118, 119, 120, 121, 122, 123, 124, 125, 126] (by decide +kernel) (by decide +kernel)
set_option maxRecDepth 20000 in
theorem gX11_drawn_X11_judged : GoodIn wsX11_drawn (wsV RX11 389 RX11 yX11_judged wsX11_judged) := goodIn_app (goodIn_of _ (by decide +kernel)) ggX11_drawn_X11_judged
set_option maxRecDepth 20000 in
theorem ggX11_drawn_X11_gives : GoodIn wsX11_drawn wsX11_gives := goodIn_r _ [71, 3, 21, 81, 82, 83, 84, 85, 86, 87, 88, 89, 90, 91, 92, 93, 94, 95, 96, 97, 98, 99, 100, 101, 102, 103, 104, 105, 106, 107, 108, 109, 110, 111, 112, 113, 114, 115, 116, 117, 118, 119, 120, 121, 122, 123, 124, 125, 126] (by decide +kernel) (by decide +kernel)
set_option maxRecDepth 20000 in
theorem gX11_drawn_X11_gives : GoodIn wsX11_drawn (wsV RX11 417 RX11 yX11_gives wsX11_gives) := goodIn_app (goodIn_of _ (by decide +kernel)) ggX11_drawn_X11_gives
set_option maxRecDepth 20000 in
theorem ggX11_drawn_X11_fraction : GoodIn wsX11_drawn wsX11_fraction := goodIn_r _ [75, 76, 77, 46, 78, 79, 80, 81, 82, 83, 84, 85, 86, 87, 88, 89, 90, 91, 92, 93, 94, 95, 96, 97, 98, 99, 100, 101, 102, 103, 104, 105, 106, 107, 108, 109, 110, 111, 112, 113, 114, 115, 116, 117, 118, 119, 120, 121, 122, 123, 124, 125, 126] (by decide +kernel) (by decide +kernel)
set_option maxRecDepth 20000 in
theorem gX11_drawn_X11_fraction : GoodIn wsX11_drawn (wsV RX11 444 RX11 yX11_fraction wsX11_fraction) := goodIn_app (goodIn_of _ (by decide +kernel)) ggX11_drawn_X11_fraction
theorem dX11_drawn_0 : decode cX11_drawn 0 = .ok (.aload_n 0, 1) := by decide +kernel
theorem dX11_drawn_1 : decode cX11_drawn 1 = .ok (.iconst 0, 1) := by decide +kernel
theorem dX11_drawn_2 : decode cX11_drawn 2 = .ok (.putfield 71, 3) := by decide +kernel
theorem dX11_drawn_5 : decode cX11_drawn 5 = .ok (.aload_n 0, 1) := by decide +kernel
theorem dX11_drawn_6 : decode cX11_drawn 6 = .ok (.iconst 0, 1) := by decide +kernel
theorem dX11_drawn_7 : decode cX11_drawn 7 = .ok (.putfield 74, 3) := by decide +kernel
theorem dX11_drawn_10 : decode cX11_drawn 10 = .ok (.iload_n 1, 1) := by decide +kernel
theorem dX11_drawn_11 : decode cX11_drawn 11 = .ok (.i2l, 1) := by decide +kernel
theorem dX11_drawn_12 : decode cX11_drawn 12 = .ok (.lconst 1, 1) := by decide +kernel
theorem dX11_drawn_13 : decode cX11_drawn 13 = .ok (.aload_n 0, 1) := by decide +kernel
theorem dX11_drawn_14 : decode cX11_drawn 14 = .ok (.getfield 35, 3) := by decide +kernel
theorem dX11_drawn_17 : decode cX11_drawn 17 = .ok (.iconst 0, 1) := by decide +kernel
theorem dX11_drawn_18 : decode cX11_drawn 18 = .ok (.iaload, 1) := by decide +kernel
theorem dX11_drawn_19 : decode cX11_drawn 19 = .ok (.i2l, 1) := by decide +kernel
theorem dX11_drawn_20 : decode cX11_drawn 20 = .ok (.invokestatic 106, 3) := by decide +kernel
theorem dX11_drawn_23 : decode cX11_drawn 23 = .ok (.ifCond .eq 23, 3) := by decide +kernel
theorem dX11_drawn_26 : decode cX11_drawn 26 = .ok (.iload_n 2, 1) := by decide +kernel
theorem dX11_drawn_27 : decode cX11_drawn 27 = .ok (.i2l, 1) := by decide +kernel
theorem dX11_drawn_28 : decode cX11_drawn 28 = .ok (.lconst 0, 1) := by decide +kernel
theorem dX11_drawn_29 : decode cX11_drawn 29 = .ok (.ldc2_w 429, 3) := by decide +kernel
theorem dX11_drawn_32 : decode cX11_drawn 32 = .ok (.invokestatic 106, 3) := by decide +kernel
theorem dX11_drawn_35 : decode cX11_drawn 35 = .ok (.ifCond .eq 11, 3) := by decide +kernel
theorem dX11_drawn_38 : decode cX11_drawn 38 = .ok (.iload_n 3, 1) := by decide +kernel
theorem dX11_drawn_39 : decode cX11_drawn 39 = .ok (.i2l, 1) := by decide +kernel
theorem dX11_drawn_40 : decode cX11_drawn 40 = .ok (.invokestatic 422, 3) := by decide +kernel
theorem dX11_drawn_43 : decode cX11_drawn 43 = .ok (.ifCond .ne 9, 3) := by decide +kernel
theorem dX11_drawn_46 : decode cX11_drawn 46 = .ok (.aload_n 0, 1) := by decide +kernel
