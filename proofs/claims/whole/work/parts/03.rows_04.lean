set_option maxRecDepth 20000 in
theorem ggX10_firstOfBest_X3_guiltyVotes : GoodIn wsX10_firstOfBest wsX3_guiltyVotes := goodIn_r _ [11, 12, 13, 78, 79, 80, 81, 82, 83, 84, 85] (by decide +kernel) (by decide +kernel)
set_option maxRecDepth 20000 in
theorem gX10_firstOfBest_X3_guiltyVotes : GoodIn wsX10_firstOfBest (wsV RX10 313 RX3 yX3_guiltyVotes wsX3_guiltyVotes) := goodIn_app (goodIn_of _ (by decide +kernel)) ggX10_firstOfBest_X3_guiltyVotes
set_option maxRecDepth 20000 in
theorem ggX10_firstOfBest_X3_seatedCount : GoodIn wsX10_firstOfBest wsX3_seatedCount := goodIn_r _ [17, 12, 18, 19, 20, 21, 22, 23, 24, 78, 79, 80, 81, 82, 83, 84, 85] (by decide +kernel) (by decide +kernel)
set_option maxRecDepth 20000 in
theorem gX10_firstOfBest_X3_seatedCount : GoodIn wsX10_firstOfBest (wsV RX10 317 RX3 yX3_seatedCount wsX3_seatedCount) := goodIn_app (goodIn_of _ (by decide +kernel)) ggX10_firstOfBest_X3_seatedCount
set_option maxRecDepth 20000 in
theorem ggX10_firstOfBest_X10_bestPlay : GoodIn wsX10_firstOfBest wsX10_bestPlay := goodIn_r _ [28, 29, 30, 31, 32, 33, 34, 35, 36, 37, 27, 38, 25, 26] (by decide +kernel) (by decide +kernel)
set_option maxRecDepth 20000 in
theorem gX10_firstOfBest_X10_bestPlay : GoodIn wsX10_firstOfBest (va_wsS RX10 371 yX10_bestPlay wsX10_bestPlay) := goodIn_app (goodIn_of _ (by decide +kernel)) ggX10_firstOfBest_X10_bestPlay
set_option maxRecDepth 20000 in
theorem ggX10_firstOfBest_X3_isSeated : GoodIn wsX10_firstOfBest wsX3_isSeated := goodIn_r _ [42, 12, 78, 79, 80, 81, 82, 83, 84, 85] (by decide +kernel) (by decide +kernel)
set_option maxRecDepth 20000 in
theorem gX10_firstOfBest_X3_isSeated : GoodIn wsX10_firstOfBest (wsV RX10 293 RX3 yX3_isSeated wsX3_isSeated) := goodIn_app (goodIn_of _ (by decide +kernel)) ggX10_firstOfBest_X3_isSeated
theorem dX10_firstOfBest_0 : decode cX10_firstOfBest 0 = .ok (.aload_n 0, 1) := by decide +kernel
theorem dX10_firstOfBest_1 : decode cX10_firstOfBest 1 = .ok (.getfield 19, 3) := by decide +kernel
theorem dX10_firstOfBest_4 : decode cX10_firstOfBest 4 = .ok (.getfield 182, 3) := by decide +kernel
theorem dX10_firstOfBest_7 : decode cX10_firstOfBest 7 = .ok (.astore_n 2, 1) := by decide +kernel
theorem dX10_firstOfBest_8 : decode cX10_firstOfBest 8 = .ok (.aload_n 0, 1) := by decide +kernel
theorem dX10_firstOfBest_9 : decode cX10_firstOfBest 9 = .ok (.getfield 19, 3) := by decide +kernel
theorem dX10_firstOfBest_12 : decode cX10_firstOfBest 12 = .ok (.getfield 175, 3) := by decide +kernel
theorem dX10_firstOfBest_15 : decode cX10_firstOfBest 15 = .ok (.getfield 213, 3) := by decide +kernel
theorem dX10_firstOfBest_18 : decode cX10_firstOfBest 18 = .ok (.istore_n 3, 1) := by decide +kernel
theorem dX10_firstOfBest_19 : decode cX10_firstOfBest 19 = .ok (.aload_n 2, 1) := by decide +kernel
theorem dX10_firstOfBest_20 : decode cX10_firstOfBest 20 = .ok (.invokevirtual 313, 3) := by decide +kernel
theorem dX10_firstOfBest_23 : decode cX10_firstOfBest 23 = .ok (.istore 4, 2) := by decide +kernel
theorem dX10_firstOfBest_25 : decode cX10_firstOfBest 25 = .ok (.aload_n 2, 1) := by decide +kernel
theorem dX10_firstOfBest_26 : decode cX10_firstOfBest 26 = .ok (.invokevirtual 317, 3) := by decide +kernel
theorem dX10_firstOfBest_29 : decode cX10_firstOfBest 29 = .ok (.iload 4, 2) := by decide +kernel
theorem dX10_firstOfBest_31 : decode cX10_firstOfBest 31 = .ok (.isub, 1) := by decide +kernel
theorem dX10_firstOfBest_32 : decode cX10_firstOfBest 32 = .ok (.istore 5, 2) := by decide +kernel
theorem dX10_firstOfBest_34 : decode cX10_firstOfBest 34 = .ok (.iload_n 3, 1) := by decide +kernel
theorem dX10_firstOfBest_35 : decode cX10_firstOfBest 35 = .ok (.iload 4, 2) := by decide +kernel
theorem dX10_firstOfBest_37 : decode cX10_firstOfBest 37 = .ok (.iload 5, 2) := by decide +kernel
theorem dX10_firstOfBest_39 : decode cX10_firstOfBest 39 = .ok (.iload_n 1, 1) := by decide +kernel
theorem dX10_firstOfBest_40 : decode cX10_firstOfBest 40 = .ok (.invokestatic 371, 3) := by decide +kernel
theorem dX10_firstOfBest_43 : decode cX10_firstOfBest 43 = .ok (.istore 6, 2) := by decide +kernel
theorem dX10_firstOfBest_45 : decode cX10_firstOfBest 45 = .ok (.iconst 0, 1) := by decide +kernel
theorem dX10_firstOfBest_46 : decode cX10_firstOfBest 46 = .ok (.istore 7, 2) := by decide +kernel
theorem dX10_firstOfBest_48 : decode cX10_firstOfBest 48 = .ok (.iload 7, 2) := by decide +kernel
theorem dX10_firstOfBest_50 : decode cX10_firstOfBest 50 = .ok (.aload_n 0, 1) := by decide +kernel
theorem dX10_firstOfBest_51 : decode cX10_firstOfBest 51 = .ok (.getfield 19, 3) := by decide +kernel
theorem dX10_firstOfBest_54 : decode cX10_firstOfBest 54 = .ok (.getfield 175, 3) := by decide +kernel
theorem dX10_firstOfBest_57 : decode cX10_firstOfBest 57 = .ok (.getfield 194, 3) := by decide +kernel
theorem dX10_firstOfBest_60 : decode cX10_firstOfBest 60 = .ok (.iconst 0, 1) := by decide +kernel
theorem dX10_firstOfBest_61 : decode cX10_firstOfBest 61 = .ok (.iaload, 1) := by decide +kernel
theorem dX10_firstOfBest_62 : decode cX10_firstOfBest 62 = .ok (.if_icmp .ge 62, 3) := by decide +kernel
theorem dX10_firstOfBest_65 : decode cX10_firstOfBest 65 = .ok (.aload_n 2, 1) := by decide +kernel
theorem dX10_firstOfBest_66 : decode cX10_firstOfBest 66 = .ok (.iload 7, 2) := by decide +kernel
theorem dX10_firstOfBest_68 : decode cX10_firstOfBest 68 = .ok (.invokevirtual 293, 3) := by decide +kernel
theorem dX10_firstOfBest_71 : decode cX10_firstOfBest 71 = .ok (.ifCond .eq 47, 3) := by decide +kernel
theorem dX10_firstOfBest_74 : decode cX10_firstOfBest 74 = .ok (.aload_n 2, 1) := by decide +kernel
theorem dX10_firstOfBest_75 : decode cX10_firstOfBest 75 = .ok (.getfield 241, 3) := by decide +kernel
theorem dX10_firstOfBest_78 : decode cX10_firstOfBest 78 = .ok (.iload 7, 2) := by decide +kernel
theorem dX10_firstOfBest_80 : decode cX10_firstOfBest 80 = .ok (.iaload, 1) := by decide +kernel
theorem dX10_firstOfBest_81 : decode cX10_firstOfBest 81 = .ok (.ifCond .le 7, 3) := by decide +kernel
theorem dX10_firstOfBest_84 : decode cX10_firstOfBest 84 = .ok (.iconst 1, 1) := by decide +kernel
theorem dX10_firstOfBest_85 : decode cX10_firstOfBest 85 = .ok (.goto 4, 3) := by decide +kernel
theorem dX10_firstOfBest_88 : decode cX10_firstOfBest 88 = .ok (.iconst 0, 1) := by decide +kernel
theorem dX10_firstOfBest_89 : decode cX10_firstOfBest 89 = .ok (.istore 8, 2) := by decide +kernel
theorem dX10_firstOfBest_91 : decode cX10_firstOfBest 91 = .ok (.iload_n 3, 1) := by decide +kernel
theorem dX10_firstOfBest_92 : decode cX10_firstOfBest 92 = .ok (.iload 4, 2) := by decide +kernel
theorem dX10_firstOfBest_94 : decode cX10_firstOfBest 94 = .ok (.iload 8, 2) := by decide +kernel
theorem dX10_firstOfBest_96 : decode cX10_firstOfBest 96 = .ok (.isub, 1) := by decide +kernel
theorem dX10_firstOfBest_97 : decode cX10_firstOfBest 97 = .ok (.iload 5, 2) := by decide +kernel
theorem dX10_firstOfBest_99 : decode cX10_firstOfBest 99 = .ok (.iconst 1, 1) := by decide +kernel
theorem dX10_firstOfBest_100 : decode cX10_firstOfBest 100 = .ok (.isub, 1) := by decide +kernel
theorem dX10_firstOfBest_101 : decode cX10_firstOfBest 101 = .ok (.iload 8, 2) := by decide +kernel
theorem dX10_firstOfBest_103 : decode cX10_firstOfBest 103 = .ok (.iadd, 1) := by decide +kernel
theorem dX10_firstOfBest_104 : decode cX10_firstOfBest 104 = .ok (.iload_n 1, 1) := by decide +kernel
theorem dX10_firstOfBest_105 : decode cX10_firstOfBest 105 = .ok (.iconst 1, 1) := by decide +kernel
theorem dX10_firstOfBest_106 : decode cX10_firstOfBest 106 = .ok (.isub, 1) := by decide +kernel
theorem dX10_firstOfBest_107 : decode cX10_firstOfBest 107 = .ok (.invokestatic 371, 3) := by decide +kernel
theorem dX10_firstOfBest_110 : decode cX10_firstOfBest 110 = .ok (.iload 6, 2) := by decide +kernel
theorem dX10_firstOfBest_112 : decode cX10_firstOfBest 112 = .ok (.if_icmp .ne 6, 3) := by decide +kernel
theorem dX10_firstOfBest_115 : decode cX10_firstOfBest 115 = .ok (.iload 7, 2) := by decide +kernel
theorem dX10_firstOfBest_117 : decode cX10_firstOfBest 117 = .ok (.ireturn, 1) := by decide +kernel
theorem dX10_firstOfBest_118 : decode cX10_firstOfBest 118 = .ok (.iinc 7 1, 3) := by decide +kernel
theorem dX10_firstOfBest_121 : decode cX10_firstOfBest 121 = .ok (.goto (-73), 3) := by decide +kernel
theorem dX10_firstOfBest_124 : decode cX10_firstOfBest 124 = .ok (.iconst (-1), 1) := by decide +kernel
theorem dX10_firstOfBest_125 : decode cX10_firstOfBest 125 = .ok (.ireturn, 1) := by decide +kernel
theorem dX11_init_0 : decode cX11_init 0 = .ok (.aload_n 0, 1) := by decide +kernel
theorem dX11_init_1 : decode cX11_init 1 = .ok (.invokespecial 1, 3) := by decide +kernel
theorem dX11_init_4 : decode cX11_init 4 = .ok (.aload_n 0, 1) := by decide +kernel
theorem dX11_init_5 : decode cX11_init 5 = .ok (.lconst 1, 1) := by decide +kernel
theorem dX11_init_6 : decode cX11_init 6 = .ok (.putfield 7, 3) := by decide +kernel
theorem dX11_init_9 : decode cX11_init 9 = .ok (.aload_n 0, 1) := by decide +kernel
theorem dX11_init_10 : decode cX11_init 10 = .ok (.iconst 4, 1) := by decide +kernel
theorem dX11_init_11 : decode cX11_init 11 = .ok (.newarray .int, 2) := by decide +kernel
theorem dX11_init_13 : decode cX11_init 13 = .ok (.putfield 13, 3) := by decide +kernel
theorem dX11_init_16 : decode cX11_init 16 = .ok (.aload_n 0, 1) := by decide +kernel
theorem dX11_init_17 : decode cX11_init 17 = .ok (.iconst 4, 1) := by decide +kernel
theorem dX11_init_18 : decode cX11_init 18 = .ok (.newarray .int, 2) := by decide +kernel
theorem dX11_init_20 : decode cX11_init 20 = .ok (.putfield 17, 3) := by decide +kernel
theorem dX11_init_23 : decode cX11_init 23 = .ok (.aload_n 0, 1) := by decide +kernel
theorem dX11_init_24 : decode cX11_init 24 = .ok (.sipush 240, 3) := by decide +kernel
theorem dX11_init_27 : decode cX11_init 27 = .ok (.newarray .long, 2) := by decide +kernel
theorem dX11_init_29 : decode cX11_init 29 = .ok (.putfield 20, 3) := by decide +kernel
theorem dX11_init_32 : decode cX11_init 32 = .ok (.aload_n 0, 1) := by decide +kernel
theorem dX11_init_33 : decode cX11_init 33 = .ok (.sipush 900, 3) := by decide +kernel
theorem dX11_init_36 : decode cX11_init 36 = .ok (.newarray .byte, 2) := by decide +kernel
theorem dX11_init_38 : decode cX11_init 38 = .ok (.putfield 24, 3) := by decide +kernel
theorem dX11_init_41 : decode cX11_init 41 = .ok (.aload_n 0, 1) := by decide +kernel
theorem dX11_init_42 : decode cX11_init 42 = .ok (.iconst (-1), 1) := by decide +kernel
theorem dX11_init_43 : decode cX11_init 43 = .ok (.putfield 28, 3) := by decide +kernel
theorem dX11_init_46 : decode cX11_init 46 = .ok (.aload_n 0, 1) := by decide +kernel
theorem dX11_init_47 : decode cX11_init 47 = .ok (.iconst (-1), 1) := by decide +kernel
theorem dX11_init_48 : decode cX11_init 48 = .ok (.putfield 32, 3) := by decide +kernel
theorem dX11_init_51 : decode cX11_init 51 = .ok (.aload_n 0, 1) := by decide +kernel
theorem dX11_init_52 : decode cX11_init 52 = .ok (.sipush 2375, 3) := by decide +kernel
theorem dX11_init_55 : decode cX11_init 55 = .ok (.newarray .int, 2) := by decide +kernel
theorem dX11_init_57 : decode cX11_init 57 = .ok (.putfield 35, 3) := by decide +kernel
theorem dX11_init_60 : decode cX11_init 60 = .ok (.aload_n 0, 1) := by decide +kernel
theorem dX11_init_61 : decode cX11_init 61 = .ok (.sipush 198, 3) := by decide +kernel
theorem dX11_init_64 : decode cX11_init 64 = .ok (.newarray .int, 2) := by decide +kernel
theorem dX11_init_66 : decode cX11_init 66 = .ok (.putfield 38, 3) := by decide +kernel
theorem dX11_init_69 : decode cX11_init 69 = .ok (.aload_n 0, 1) := by decide +kernel
theorem dX11_init_70 : decode cX11_init 70 = .ok (.sipush 130, 3) := by decide +kernel
theorem dX11_init_73 : decode cX11_init 73 = .ok (.newarray .long, 2) := by decide +kernel
theorem dX11_init_75 : decode cX11_init 75 = .ok (.putfield 41, 3) := by decide +kernel
theorem dX11_init_78 : decode cX11_init 78 = .ok (.aload_n 0, 1) := by decide +kernel
theorem dX11_init_79 : decode cX11_init 79 = .ok (.sipush 2010, 3) := by decide +kernel
theorem dX11_init_82 : decode cX11_init 82 = .ok (.newarray .int, 2) := by decide +kernel
theorem dX11_init_84 : decode cX11_init 84 = .ok (.putfield 44, 3) := by decide +kernel
theorem dX11_init_87 : decode cX11_init 87 = .ok (.aload_n 0, 1) := by decide +kernel
theorem dX11_init_88 : decode cX11_init 88 = .ok (.iconst 4, 1) := by decide +kernel
theorem dX11_init_89 : decode cX11_init 89 = .ok (.newarray .int, 2) := by decide +kernel
theorem dX11_init_91 : decode cX11_init 91 = .ok (.putfield 47, 3) := by decide +kernel
theorem dX11_init_94 : decode cX11_init 94 = .ok (.aload_n 0, 1) := by decide +kernel
theorem dX11_init_95 : decode cX11_init 95 = .ok (.iconst 4, 1) := by decide +kernel
theorem dX11_init_96 : decode cX11_init 96 = .ok (.newarray .int, 2) := by decide +kernel
theorem dX11_init_98 : decode cX11_init 98 = .ok (.putfield 50, 3) := by decide +kernel
theorem dX11_init_101 : decode cX11_init 101 = .ok (.aload_n 0, 1) := by decide +kernel
theorem dX11_init_102 : decode cX11_init 102 = .ok (.sipush 990, 3) := by decide +kernel
theorem dX11_init_105 : decode cX11_init 105 = .ok (.newarray .int, 2) := by decide +kernel
theorem dX11_init_107 : decode cX11_init 107 = .ok (.putfield 53, 3) := by decide +kernel
theorem dX11_init_110 : decode cX11_init 110 = .ok (.aload_n 0, 1) := by decide +kernel
theorem dX11_init_111 : decode cX11_init 111 = .ok (.iconst (-1), 1) := by decide +kernel
theorem dX11_init_112 : decode cX11_init 112 = .ok (.putfield 56, 3) := by decide +kernel
theorem dX11_init_115 : decode cX11_init 115 = .ok (.aload_n 0, 1) := by decide +kernel
theorem dX11_init_116 : decode cX11_init 116 = .ok (.iconst (-1), 1) := by decide +kernel
theorem dX11_init_117 : decode cX11_init 117 = .ok (.putfield 59, 3) := by decide +kernel
theorem dX11_init_120 : decode cX11_init 120 = .ok (.aload_n 0, 1) := by decide +kernel
theorem dX11_init_121 : decode cX11_init 121 = .ok (.bipush 126, 2) := by decide +kernel
theorem dX11_init_123 : decode cX11_init 123 = .ok (.newarray .int, 2) := by decide +kernel
theorem dX11_init_125 : decode cX11_init 125 = .ok (.putfield 62, 3) := by decide +kernel
theorem dX11_init_128 : decode cX11_init 128 = .ok (.aload_n 0, 1) := by decide +kernel
theorem dX11_init_129 : decode cX11_init 129 = .ok (.iconst 5, 1) := by decide +kernel
theorem dX11_init_130 : decode cX11_init 130 = .ok (.newarray .int, 2) := by decide +kernel
theorem dX11_init_132 : decode cX11_init 132 = .ok (.putfield 65, 3) := by decide +kernel
theorem dX11_init_135 : decode cX11_init 135 = .ok (.aload_n 0, 1) := by decide +kernel
theorem dX11_init_136 : decode cX11_init 136 = .ok (.sipush 198, 3) := by decide +kernel
theorem dX11_init_139 : decode cX11_init 139 = .ok (.newarray .int, 2) := by decide +kernel
theorem dX11_init_141 : decode cX11_init 141 = .ok (.putfield 68, 3) := by decide +kernel
theorem dX11_init_144 : decode cX11_init 144 = .ok (.iconst 0, 1) := by decide +kernel
theorem dX11_init_145 : decode cX11_init 145 = .ok (.istore_n 1, 1) := by decide +kernel
theorem dX11_init_146 : decode cX11_init 146 = .ok (.iload_n 1, 1) := by decide +kernel
theorem dX11_init_147 : decode cX11_init 147 = .ok (.iconst 4, 1) := by decide +kernel
theorem dX11_init_148 : decode cX11_init 148 = .ok (.if_icmp .ge 16, 3) := by decide +kernel
theorem dX11_init_151 : decode cX11_init 151 = .ok (.aload_n 0, 1) := by decide +kernel
theorem dX11_init_152 : decode cX11_init 152 = .ok (.getfield 17, 3) := by decide +kernel
theorem dX11_init_155 : decode cX11_init 155 = .ok (.iload_n 1, 1) := by decide +kernel
theorem dX11_init_156 : decode cX11_init 156 = .ok (.iconst (-1), 1) := by decide +kernel
theorem dX11_init_157 : decode cX11_init 157 = .ok (.iastore, 1) := by decide +kernel
theorem dX11_init_158 : decode cX11_init 158 = .ok (.iinc 1 1, 3) := by decide +kernel
theorem dX11_init_161 : decode cX11_init 161 = .ok (.goto (-15), 3) := by decide +kernel
theorem dX11_init_164 : decode cX11_init 164 = .ok (.aload_n 0, 1) := by decide +kernel
theorem dX11_init_165 : decode cX11_init 165 = .ok (.getfield 35, 3) := by decide +kernel
theorem dX11_init_168 : decode cX11_init 168 = .ok (.bipush 8, 2) := by decide +kernel
theorem dX11_init_170 : decode cX11_init 170 = .ok (.iconst (-1), 1) := by decide +kernel
theorem dX11_init_171 : decode cX11_init 171 = .ok (.iastore, 1) := by decide +kernel
theorem dX11_init_172 : decode cX11_init 172 = .ok (.return_, 1) := by decide +kernel
theorem dX11_status_0 : decode cX11_status 0 = .ok (.aload_n 0, 1) := by decide +kernel
theorem dX11_status_1 : decode cX11_status 1 = .ok (.iconst 0, 1) := by decide +kernel
theorem dX11_status_2 : decode cX11_status 2 = .ok (.putfield 71, 3) := by decide +kernel
theorem dX11_status_5 : decode cX11_status 5 = .ok (.aload_n 0, 1) := by decide +kernel
theorem dX11_status_6 : decode cX11_status 6 = .ok (.getfield 74, 3) := by decide +kernel
theorem dX11_status_9 : decode cX11_status 9 = .ok (.ireturn, 1) := by decide +kernel
theorem dX11_top_0 : decode cX11_top 0 = .ok (.aload_n 0, 1) := by decide +kernel
theorem dX11_top_1 : decode cX11_top 1 = .ok (.iconst 0, 1) := by decide +kernel
theorem dX11_top_2 : decode cX11_top 2 = .ok (.putfield 71, 3) := by decide +kernel
theorem dX11_top_5 : decode cX11_top 5 = .ok (.aload_n 0, 1) := by decide +kernel
theorem dX11_top_6 : decode cX11_top 6 = .ok (.getfield 77, 3) := by decide +kernel
theorem dX11_top_9 : decode cX11_top 9 = .ok (.lreturn, 1) := by decide +kernel
theorem dX11_bottom_0 : decode cX11_bottom 0 = .ok (.aload_n 0, 1) := by decide +kernel
theorem dX11_bottom_1 : decode cX11_bottom 1 = .ok (.iconst 0, 1) := by decide +kernel
theorem dX11_bottom_2 : decode cX11_bottom 2 = .ok (.putfield 71, 3) := by decide +kernel
theorem dX11_bottom_5 : decode cX11_bottom 5 = .ok (.aload_n 0, 1) := by decide +kernel
theorem dX11_bottom_6 : decode cX11_bottom 6 = .ok (.getfield 7, 3) := by decide +kernel
theorem dX11_bottom_9 : decode cX11_bottom 9 = .ok (.lreturn, 1) := by decide +kernel
theorem dX11_refuse_0 : decode cX11_refuse 0 = .ok (.aload_n 0, 1) := by decide +kernel
theorem dX11_refuse_1 : decode cX11_refuse 1 = .ok (.iload_n 1, 1) := by decide +kernel
theorem dX11_refuse_2 : decode cX11_refuse 2 = .ok (.putfield 74, 3) := by decide +kernel
theorem dX11_refuse_5 : decode cX11_refuse 5 = .ok (.iconst (-1), 1) := by decide +kernel
theorem dX11_refuse_6 : decode cX11_refuse 6 = .ok (.ireturn, 1) := by decide +kernel
theorem dX11_no_0 : decode cX11_no 0 = .ok (.aload_n 0, 1) := by decide +kernel
theorem dX11_no_1 : decode cX11_no 1 = .ok (.iload_n 1, 1) := by decide +kernel
theorem dX11_no_2 : decode cX11_no 2 = .ok (.putfield 74, 3) := by decide +kernel
theorem dX11_no_5 : decode cX11_no 5 = .ok (.iconst 0, 1) := by decide +kernel
theorem dX11_no_6 : decode cX11_no 6 = .ok (.ireturn, 1) := by decide +kernel
theorem dX11_isIn_0 : decode cX11_isIn 0 = .ok (.lload_n 0, 1) := by decide +kernel
theorem dX11_isIn_1 : decode cX11_isIn 1 = .ok (.lload_n 2, 1) := by decide +kernel
theorem dX11_isIn_2 : decode cX11_isIn 2 = .ok (.lcmp, 1) := by decide +kernel
theorem dX11_isIn_3 : decode cX11_isIn 3 = .ok (.ifCond .lt 14, 3) := by decide +kernel
theorem dX11_isIn_6 : decode cX11_isIn 6 = .ok (.lload_n 0, 1) := by decide +kernel
theorem dX11_isIn_7 : decode cX11_isIn 7 = .ok (.lload 4, 2) := by decide +kernel
theorem dX11_isIn_9 : decode cX11_isIn 9 = .ok (.lcmp, 1) := by decide +kernel
theorem dX11_isIn_10 : decode cX11_isIn 10 = .ok (.ifCond .gt 7, 3) := by decide +kernel
theorem dX11_isIn_13 : decode cX11_isIn 13 = .ok (.iconst 1, 1) := by decide +kernel
theorem dX11_isIn_14 : decode cX11_isIn 14 = .ok (.goto 4, 3) := by decide +kernel
theorem dX11_isIn_17 : decode cX11_isIn 17 = .ok (.iconst 0, 1) := by decide +kernel
theorem dX11_isIn_18 : decode cX11_isIn 18 = .ok (.ireturn, 1) := by decide +kernel
theorem dX11_fraction_0 : decode cX11_fraction 0 = .ok (.lload_n 1, 1) := by decide +kernel
theorem dX11_fraction_1 : decode cX11_fraction 1 = .ok (.invokestatic 80, 3) := by decide +kernel
theorem dX11_fraction_4 : decode cX11_fraction 4 = .ok (.lstore 5, 2) := by decide +kernel
theorem dX11_fraction_6 : decode cX11_fraction 6 = .ok (.lload_n 3, 1) := by decide +kernel
theorem dX11_fraction_7 : decode cX11_fraction 7 = .ok (.lstore 7, 2) := by decide +kernel
theorem dX11_fraction_9 : decode cX11_fraction 9 = .ok (.lload 7, 2) := by decide +kernel
theorem dX11_fraction_11 : decode cX11_fraction 11 = .ok (.lconst 0, 1) := by decide +kernel
theorem dX11_fraction_12 : decode cX11_fraction 12 = .ok (.lcmp, 1) := by decide +kernel
theorem dX11_fraction_13 : decode cX11_fraction 13 = .ok (.ifCond .eq 21, 3) := by decide +kernel
theorem dX11_fraction_16 : decode cX11_fraction 16 = .ok (.lload 5, 2) := by decide +kernel
theorem dX11_fraction_18 : decode cX11_fraction 18 = .ok (.lload 7, 2) := by decide +kernel
theorem dX11_fraction_20 : decode cX11_fraction 20 = .ok (.lrem, 1) := by decide +kernel
theorem dX11_fraction_21 : decode cX11_fraction 21 = .ok (.lstore 9, 2) := by decide +kernel
theorem dX11_fraction_23 : decode cX11_fraction 23 = .ok (.lload 7, 2) := by decide +kernel
theorem dX11_fraction_25 : decode cX11_fraction 25 = .ok (.lstore 5, 2) := by decide +kernel
theorem dX11_fraction_27 : decode cX11_fraction 27 = .ok (.lload 9, 2) := by decide +kernel
theorem dX11_fraction_29 : decode cX11_fraction 29 = .ok (.lstore 7, 2) := by decide +kernel
theorem dX11_fraction_31 : decode cX11_fraction 31 = .ok (.goto (-22), 3) := by decide +kernel
theorem dX11_fraction_34 : decode cX11_fraction 34 = .ok (.aload_n 0, 1) := by decide +kernel
theorem dX11_fraction_35 : decode cX11_fraction 35 = .ok (.lload_n 1, 1) := by decide +kernel
theorem dX11_fraction_36 : decode cX11_fraction 36 = .ok (.lload 5, 2) := by decide +kernel
theorem dX11_fraction_38 : decode cX11_fraction 38 = .ok (.ldiv, 1) := by decide +kernel
theorem dX11_fraction_39 : decode cX11_fraction 39 = .ok (.putfield 77, 3) := by decide +kernel
theorem dX11_fraction_42 : decode cX11_fraction 42 = .ok (.aload_n 0, 1) := by decide +kernel
theorem dX11_fraction_43 : decode cX11_fraction 43 = .ok (.lload_n 3, 1) := by decide +kernel
theorem dX11_fraction_44 : decode cX11_fraction 44 = .ok (.lload 5, 2) := by decide +kernel
theorem dX11_fraction_46 : decode cX11_fraction 46 = .ok (.ldiv, 1) := by decide +kernel
theorem dX11_fraction_47 : decode cX11_fraction 47 = .ok (.putfield 7, 3) := by decide +kernel
theorem dX11_fraction_50 : decode cX11_fraction 50 = .ok (.iconst 1, 1) := by decide +kernel
theorem dX11_fraction_51 : decode cX11_fraction 51 = .ok (.ireturn, 1) := by decide +kernel
theorem dX11_cut_0 : decode cX11_cut 0 = .ok (.iload_n 0, 1) := by decide +kernel
theorem dX11_cut_1 : decode cX11_cut 1 = .ok (.ifCond .ne 10, 3) := by decide +kernel
theorem dX11_cut_4 : decode cX11_cut 4 = .ok (.lload_n 1, 1) := by decide +kernel
theorem dX11_cut_5 : decode cX11_cut 5 = .ok (.l2i, 1) := by decide +kernel
theorem dX11_cut_6 : decode cX11_cut 6 = .ok (.i2b, 1) := by decide +kernel
theorem dX11_cut_7 : decode cX11_cut 7 = .ok (.i2l, 1) := by decide +kernel
theorem dX11_cut_8 : decode cX11_cut 8 = .ok (.goto 27, 3) := by decide +kernel
theorem dX11_cut_11 : decode cX11_cut 11 = .ok (.iload_n 0, 1) := by decide +kernel
theorem dX11_cut_12 : decode cX11_cut 12 = .ok (.iconst 1, 1) := by decide +kernel
theorem dX11_cut_13 : decode cX11_cut 13 = .ok (.if_icmp .ne 10, 3) := by decide +kernel
theorem dX11_cut_16 : decode cX11_cut 16 = .ok (.lload_n 1, 1) := by decide +kernel
theorem dX11_cut_17 : decode cX11_cut 17 = .ok (.l2i, 1) := by decide +kernel
theorem dX11_cut_18 : decode cX11_cut 18 = .ok (.i2s, 1) := by decide +kernel
theorem dX11_cut_19 : decode cX11_cut 19 = .ok (.i2l, 1) := by decide +kernel
theorem dX11_cut_20 : decode cX11_cut 20 = .ok (.goto 15, 3) := by decide +kernel
theorem dX11_cut_23 : decode cX11_cut 23 = .ok (.iload_n 0, 1) := by decide +kernel
theorem dX11_cut_24 : decode cX11_cut 24 = .ok (.iconst 2, 1) := by decide +kernel
theorem dX11_cut_25 : decode cX11_cut 25 = .ok (.if_icmp .ne 9, 3) := by decide +kernel
theorem dX11_cut_28 : decode cX11_cut 28 = .ok (.lload_n 1, 1) := by decide +kernel
theorem dX11_cut_29 : decode cX11_cut 29 = .ok (.l2i, 1) := by decide +kernel
theorem dX11_cut_30 : decode cX11_cut 30 = .ok (.i2l, 1) := by decide +kernel
theorem dX11_cut_31 : decode cX11_cut 31 = .ok (.goto 4, 3) := by decide +kernel
theorem dX11_cut_34 : decode cX11_cut 34 = .ok (.lload_n 1, 1) := by decide +kernel
theorem dX11_cut_35 : decode cX11_cut 35 = .ok (.lreturn, 1) := by decide +kernel
set_option maxRecDepth 20000 in
theorem ggX11_tray_X11_no : GoodIn wsX11_tray wsX11_no := goodIn_r _ [10, 2, 11, 12, 13, 14, 15, 16, 17, 18, 19, 20, 21, 22, 23, 24, 25, 26, 27, 28, 29, 30, 31, 32, 33, 34, 35, 36, 37, 38, 39, 40, 41, 42, 43, 44, 45, 46, 47, 48, 49, 50, 51, 52, 53, 54, 55, 56] (by decide +kernel) (by decide +kernel)
set_option maxRecDepth 20000 in
theorem gX11_tray_X11_no : GoodIn wsX11_tray (wsV RX11 86 RX11 yX11_no wsX11_no) := goodIn_app (goodIn_of _ (by decide +kernel)) ggX11_tray_X11_no
theorem dX11_tray_0 : decode cX11_tray 0 = .ok (.aload_n 0, 1) := by decide +kernel
theorem dX11_tray_1 : decode cX11_tray 1 = .ok (.iconst 0, 1) := by decide +kernel
theorem dX11_tray_2 : decode cX11_tray 2 = .ok (.putfield 71, 3) := by decide +kernel
theorem dX11_tray_5 : decode cX11_tray 5 = .ok (.aload_n 0, 1) := by decide +kernel
theorem dX11_tray_6 : decode cX11_tray 6 = .ok (.iconst 0, 1) := by decide +kernel
theorem dX11_tray_7 : decode cX11_tray 7 = .ok (.putfield 74, 3) := by decide +kernel
theorem dX11_tray_10 : decode cX11_tray 10 = .ok (.iload_n 1, 1) := by decide +kernel
theorem dX11_tray_11 : decode cX11_tray 11 = .ok (.ifCond .lt 17, 3) := by decide +kernel
theorem dX11_tray_14 : decode cX11_tray 14 = .ok (.iload_n 1, 1) := by decide +kernel
theorem dX11_tray_15 : decode cX11_tray 15 = .ok (.iconst 4, 1) := by decide +kernel
theorem dX11_tray_16 : decode cX11_tray 16 = .ok (.if_icmp .ge 12, 3) := by decide +kernel
theorem dX11_tray_19 : decode cX11_tray 19 = .ok (.iload_n 2, 1) := by decide +kernel
theorem dX11_tray_20 : decode cX11_tray 20 = .ok (.ifCond .lt 8, 3) := by decide +kernel
theorem dX11_tray_23 : decode cX11_tray 23 = .ok (.iload_n 2, 1) := by decide +kernel
theorem dX11_tray_24 : decode cX11_tray 24 = .ok (.iconst 3, 1) := by decide +kernel
theorem dX11_tray_25 : decode cX11_tray 25 = .ok (.if_icmp .le 9, 3) := by decide +kernel
theorem dX11_tray_28 : decode cX11_tray 28 = .ok (.aload_n 0, 1) := by decide +kernel
theorem dX11_tray_29 : decode cX11_tray 29 = .ok (.iconst 1, 1) := by decide +kernel
theorem dX11_tray_30 : decode cX11_tray 30 = .ok (.invokevirtual 86, 3) := by decide +kernel
theorem dX11_tray_33 : decode cX11_tray 33 = .ok (.ireturn, 1) := by decide +kernel
theorem dX11_tray_34 : decode cX11_tray 34 = .ok (.iload_n 3, 1) := by decide +kernel
theorem dX11_tray_35 : decode cX11_tray 35 = .ok (.bipush 60, 2) := by decide +kernel
theorem dX11_tray_37 : decode cX11_tray 37 = .ok (.if_icmp .le 9, 3) := by decide +kernel
theorem dX11_tray_40 : decode cX11_tray 40 = .ok (.aload_n 0, 1) := by decide +kernel
theorem dX11_tray_41 : decode cX11_tray 41 = .ok (.iconst 5, 1) := by decide +kernel
theorem dX11_tray_42 : decode cX11_tray 42 = .ok (.invokevirtual 86, 3) := by decide +kernel
theorem dX11_tray_45 : decode cX11_tray 45 = .ok (.ireturn, 1) := by decide +kernel
theorem dX11_tray_46 : decode cX11_tray 46 = .ok (.iload_n 3, 1) := by decide +kernel
theorem dX11_tray_47 : decode cX11_tray 47 = .ok (.ifCond .ge 10, 3) := by decide +kernel
theorem dX11_tray_50 : decode cX11_tray 50 = .ok (.aload_n 0, 1) := by decide +kernel
theorem dX11_tray_51 : decode cX11_tray 51 = .ok (.bipush 6, 2) := by decide +kernel
theorem dX11_tray_53 : decode cX11_tray 53 = .ok (.invokevirtual 86, 3) := by decide +kernel
theorem dX11_tray_56 : decode cX11_tray 56 = .ok (.ireturn, 1) := by decide +kernel
theorem dX11_tray_57 : decode cX11_tray 57 = .ok (.aload_n 0, 1) := by decide +kernel
theorem dX11_tray_58 : decode cX11_tray 58 = .ok (.getfield 13, 3) := by decide +kernel
theorem dX11_tray_61 : decode cX11_tray 61 = .ok (.iload_n 1, 1) := by decide +kernel
theorem dX11_tray_62 : decode cX11_tray 62 = .ok (.iload_n 2, 1) := by decide +kernel
theorem dX11_tray_63 : decode cX11_tray 63 = .ok (.iastore, 1) := by decide +kernel
theorem dX11_tray_64 : decode cX11_tray 64 = .ok (.aload_n 0, 1) := by decide +kernel
theorem dX11_tray_65 : decode cX11_tray 65 = .ok (.getfield 17, 3) := by decide +kernel
theorem dX11_tray_68 : decode cX11_tray 68 = .ok (.iload_n 1, 1) := by decide +kernel
theorem dX11_tray_69 : decode cX11_tray 69 = .ok (.iload_n 3, 1) := by decide +kernel
theorem dX11_tray_70 : decode cX11_tray 70 = .ok (.iastore, 1) := by decide +kernel
theorem dX11_tray_71 : decode cX11_tray 71 = .ok (.iconst 0, 1) := by decide +kernel
theorem dX11_tray_72 : decode cX11_tray 72 = .ok (.istore 4, 2) := by decide +kernel
theorem dX11_tray_74 : decode cX11_tray 74 = .ok (.iload 4, 2) := by decide +kernel
theorem dX11_tray_76 : decode cX11_tray 76 = .ok (.iload_n 3, 1) := by decide +kernel
theorem dX11_tray_77 : decode cX11_tray 77 = .ok (.if_icmp .ge 22, 3) := by decide +kernel
theorem dX11_tray_80 : decode cX11_tray 80 = .ok (.aload_n 0, 1) := by decide +kernel
theorem dX11_tray_81 : decode cX11_tray 81 = .ok (.getfield 20, 3) := by decide +kernel
theorem dX11_tray_84 : decode cX11_tray 84 = .ok (.bipush 60, 2) := by decide +kernel
theorem dX11_tray_86 : decode cX11_tray 86 = .ok (.iload_n 1, 1) := by decide +kernel
theorem dX11_tray_87 : decode cX11_tray 87 = .ok (.imul, 1) := by decide +kernel
theorem dX11_tray_88 : decode cX11_tray 88 = .ok (.iload 4, 2) := by decide +kernel
theorem dX11_tray_90 : decode cX11_tray 90 = .ok (.iadd, 1) := by decide +kernel
theorem dX11_tray_91 : decode cX11_tray 91 = .ok (.lconst 0, 1) := by decide +kernel
theorem dX11_tray_92 : decode cX11_tray 92 = .ok (.lastore, 1) := by decide +kernel
theorem dX11_tray_93 : decode cX11_tray 93 = .ok (.iinc 4 1, 3) := by decide +kernel
theorem dX11_tray_96 : decode cX11_tray 96 = .ok (.goto (-22), 3) := by decide +kernel
theorem dX11_tray_99 : decode cX11_tray 99 = .ok (.iconst 1, 1) := by decide +kernel
theorem dX11_tray_100 : decode cX11_tray 100 = .ok (.ireturn, 1) := by decide +kernel
theorem dX11_trayed_0 : decode cX11_trayed 0 = .ok (.iload_n 1, 1) := by decide +kernel
theorem dX11_trayed_1 : decode cX11_trayed 1 = .ok (.ifCond .lt 8, 3) := by decide +kernel
theorem dX11_trayed_4 : decode cX11_trayed 4 = .ok (.iload_n 1, 1) := by decide +kernel
theorem dX11_trayed_5 : decode cX11_trayed 5 = .ok (.iconst 4, 1) := by decide +kernel
theorem dX11_trayed_6 : decode cX11_trayed 6 = .ok (.if_icmp .lt 7, 3) := by decide +kernel
theorem dX11_trayed_9 : decode cX11_trayed 9 = .ok (.iconst 1, 1) := by decide +kernel
theorem dX11_trayed_10 : decode cX11_trayed 10 = .ok (.goto 17, 3) := by decide +kernel
theorem dX11_trayed_13 : decode cX11_trayed 13 = .ok (.aload_n 0, 1) := by decide +kernel
theorem dX11_trayed_14 : decode cX11_trayed 14 = .ok (.getfield 17, 3) := by decide +kernel
theorem dX11_trayed_17 : decode cX11_trayed 17 = .ok (.iload_n 1, 1) := by decide +kernel
theorem dX11_trayed_18 : decode cX11_trayed 18 = .ok (.iaload, 1) := by decide +kernel
theorem dX11_trayed_19 : decode cX11_trayed 19 = .ok (.ifCond .ge 7, 3) := by decide +kernel
theorem dX11_trayed_22 : decode cX11_trayed 22 = .ok (.iconst 3, 1) := by decide +kernel
theorem dX11_trayed_23 : decode cX11_trayed 23 = .ok (.goto 4, 3) := by decide +kernel
theorem dX11_trayed_26 : decode cX11_trayed 26 = .ok (.iconst 0, 1) := by decide +kernel
theorem dX11_trayed_27 : decode cX11_trayed 27 = .ok (.ireturn, 1) := by decide +kernel
set_option maxRecDepth 20000 in
theorem ggX11_placed_X11_trayed : GoodIn wsX11_placed wsX11_trayed := goodIn_r _ [6, 1, 7, 8, 9, 10, 11, 12, 13, 14, 15, 16, 17, 18, 19, 20, 21, 22, 23, 24, 25, 26, 27, 28, 29, 30, 31, 32, 33, 34, 35, 36, 37, 38, 39, 40, 41, 42, 43, 44, 45, 46, 47, 48, 49, 50, 51, 52] (by decide +kernel) (by decide +kernel)
set_option maxRecDepth 20000 in
theorem gX11_placed_X11_trayed : GoodIn wsX11_placed (wsV RX11 90 RX11 yX11_trayed wsX11_trayed) := goodIn_app (goodIn_of _ (by decide +kernel)) ggX11_placed_X11_trayed
theorem dX11_placed_0 : decode cX11_placed 0 = .ok (.aload_n 0, 1) := by decide +kernel
theorem dX11_placed_1 : decode cX11_placed 1 = .ok (.iload_n 1, 1) := by decide +kernel
theorem dX11_placed_2 : decode cX11_placed 2 = .ok (.invokevirtual 90, 3) := by decide +kernel
theorem dX11_placed_5 : decode cX11_placed 5 = .ok (.istore_n 3, 1) := by decide +kernel
theorem dX11_placed_6 : decode cX11_placed 6 = .ok (.iload_n 3, 1) := by decide +kernel
theorem dX11_placed_7 : decode cX11_placed 7 = .ok (.ifCond .le 7, 3) := by decide +kernel
theorem dX11_placed_10 : decode cX11_placed 10 = .ok (.iload_n 3, 1) := by decide +kernel
theorem dX11_placed_11 : decode cX11_placed 11 = .ok (.goto 22, 3) := by decide +kernel
theorem dX11_placed_14 : decode cX11_placed 14 = .ok (.iload_n 2, 1) := by decide +kernel
theorem dX11_placed_15 : decode cX11_placed 15 = .ok (.ifCond .lt 13, 3) := by decide +kernel
theorem dX11_placed_18 : decode cX11_placed 18 = .ok (.iload_n 2, 1) := by decide +kernel
theorem dX11_placed_19 : decode cX11_placed 19 = .ok (.aload_n 0, 1) := by decide +kernel
theorem dX11_placed_20 : decode cX11_placed 20 = .ok (.getfield 17, 3) := by decide +kernel
theorem dX11_placed_23 : decode cX11_placed 23 = .ok (.iload_n 1, 1) := by decide +kernel
theorem dX11_placed_24 : decode cX11_placed 24 = .ok (.iaload, 1) := by decide +kernel
theorem dX11_placed_25 : decode cX11_placed 25 = .ok (.if_icmp .lt 7, 3) := by decide +kernel
theorem dX11_placed_28 : decode cX11_placed 28 = .ok (.iconst 4, 1) := by decide +kernel
theorem dX11_placed_29 : decode cX11_placed 29 = .ok (.goto 4, 3) := by decide +kernel
theorem dX11_placed_32 : decode cX11_placed 32 = .ok (.iconst 0, 1) := by decide +kernel
theorem dX11_placed_33 : decode cX11_placed 33 = .ok (.ireturn, 1) := by decide +kernel
set_option maxRecDepth 20000 in
theorem ggX11_write_X11_placed : GoodIn wsX11_write wsX11_placed := goodIn_r _ [9, 10, 11, 12, 13, 8, 14, 18, 19, 20, 21, 22, 23, 24, 25, 26, 27, 28, 29, 30, 31, 32, 33, 34, 35, 36, 37, 38, 39, 40, 41, 42, 43, 44, 45, 46, 47, 48, 49, 50, 51, 52, 53, 54, 55, 56, 57, 58, 59, 60, 61, 62, 63] (by decide +kernel) (by decide +kernel)
set_option maxRecDepth 20000 in
theorem gX11_write_X11_placed : GoodIn wsX11_write (wsV RX11 94 RX11 yX11_placed wsX11_placed) := goodIn_app (goodIn_of _ (by decide +kernel)) ggX11_write_X11_placed
set_option maxRecDepth 20000 in
theorem ggX11_write_X11_cut : GoodIn wsX11_write wsX11_cut := goodIn_r _ [17] (by decide +kernel) (by decide +kernel)
set_option maxRecDepth 20000 in
theorem gX11_write_X11_cut : GoodIn wsX11_write (va_wsS RX11 98 yX11_cut wsX11_cut) := goodIn_app (goodIn_of _ (by decide +kernel)) ggX11_write_X11_cut
theorem dX11_write_0 : decode cX11_write 0 = .ok (.aload_n 0, 1) := by decide +kernel
theorem dX11_write_1 : decode cX11_write 1 = .ok (.iconst 0, 1) := by decide +kernel
theorem dX11_write_2 : decode cX11_write 2 = .ok (.putfield 71, 3) := by decide +kernel
theorem dX11_write_5 : decode cX11_write 5 = .ok (.aload_n 0, 1) := by decide +kernel
theorem dX11_write_6 : decode cX11_write 6 = .ok (.aload_n 0, 1) := by decide +kernel
theorem dX11_write_7 : decode cX11_write 7 = .ok (.iload_n 1, 1) := by decide +kernel
theorem dX11_write_8 : decode cX11_write 8 = .ok (.iload_n 2, 1) := by decide +kernel
theorem dX11_write_9 : decode cX11_write 9 = .ok (.invokevirtual 94, 3) := by decide +kernel
theorem dX11_write_12 : decode cX11_write 12 = .ok (.putfield 74, 3) := by decide +kernel
theorem dX11_write_15 : decode cX11_write 15 = .ok (.aload_n 0, 1) := by decide +kernel
theorem dX11_write_16 : decode cX11_write 16 = .ok (.getfield 74, 3) := by decide +kernel
theorem dX11_write_19 : decode cX11_write 19 = .ok (.ifCond .le 5, 3) := by decide +kernel
theorem dX11_write_22 : decode cX11_write 22 = .ok (.iconst 0, 1) := by decide +kernel
theorem dX11_write_23 : decode cX11_write 23 = .ok (.ireturn, 1) := by decide +kernel
theorem dX11_write_24 : decode cX11_write 24 = .ok (.aload_n 0, 1) := by decide +kernel
theorem dX11_write_25 : decode cX11_write 25 = .ok (.getfield 20, 3) := by decide +kernel
theorem dX11_write_28 : decode cX11_write 28 = .ok (.bipush 60, 2) := by decide +kernel
theorem dX11_write_30 : decode cX11_write 30 = .ok (.iload_n 1, 1) := by decide +kernel
theorem dX11_write_31 : decode cX11_write 31 = .ok (.imul, 1) := by decide +kernel
theorem dX11_write_32 : decode cX11_write 32 = .ok (.iload_n 2, 1) := by decide +kernel
theorem dX11_write_33 : decode cX11_write 33 = .ok (.iadd, 1) := by decide +kernel
theorem dX11_write_34 : decode cX11_write 34 = .ok (.aload_n 0, 1) := by decide +kernel
theorem dX11_write_35 : decode cX11_write 35 = .ok (.getfield 13, 3) := by decide +kernel
theorem dX11_write_38 : decode cX11_write 38 = .ok (.iload_n 1, 1) := by decide +kernel
theorem dX11_write_39 : decode cX11_write 39 = .ok (.iaload, 1) := by decide +kernel
theorem dX11_write_40 : decode cX11_write 40 = .ok (.lload_n 3, 1) := by decide +kernel
theorem dX11_write_41 : decode cX11_write 41 = .ok (.invokestatic 98, 3) := by decide +kernel
theorem dX11_write_44 : decode cX11_write 44 = .ok (.lastore, 1) := by decide +kernel
theorem dX11_write_45 : decode cX11_write 45 = .ok (.iconst 1, 1) := by decide +kernel
theorem dX11_write_46 : decode cX11_write 46 = .ok (.ireturn, 1) := by decide +kernel
set_option maxRecDepth 20000 in
theorem ggX11_read_X11_placed : GoodIn wsX11_read wsX11_placed := goodIn_r _ [9, 10, 11, 12, 13, 8, 14, 15, 16, 17, 18, 19, 20, 21, 22, 23, 24, 25, 26, 27, 28, 29, 30, 31, 32, 33, 34, 35, 36, 37, 38, 39, 40, 41, 42, 43, 44, 45, 46, 47, 48, 49, 50, 51, 52, 53, 54, 55, 56, 57, 58, 59, 60] (by decide +kernel) (by decide +kernel)
set_option maxRecDepth 20000 in
theorem gX11_read_X11_placed : GoodIn wsX11_read (wsV RX11 94 RX11 yX11_placed wsX11_placed) := goodIn_app (goodIn_of _ (by decide +kernel)) ggX11_read_X11_placed
theorem dX11_read_0 : decode cX11_read 0 = .ok (.aload_n 0, 1) := by decide +kernel
theorem dX11_read_1 : decode cX11_read 1 = .ok (.iconst 0, 1) := by decide +kernel
theorem dX11_read_2 : decode cX11_read 2 = .ok (.putfield 71, 3) := by decide +kernel
theorem dX11_read_5 : decode cX11_read 5 = .ok (.aload_n 0, 1) := by decide +kernel
theorem dX11_read_6 : decode cX11_read 6 = .ok (.aload_n 0, 1) := by decide +kernel
theorem dX11_read_7 : decode cX11_read 7 = .ok (.iload_n 1, 1) := by decide +kernel
theorem dX11_read_8 : decode cX11_read 8 = .ok (.iload_n 2, 1) := by decide +kernel
theorem dX11_read_9 : decode cX11_read 9 = .ok (.invokevirtual 94, 3) := by decide +kernel
theorem dX11_read_12 : decode cX11_read 12 = .ok (.putfield 74, 3) := by decide +kernel
theorem dX11_read_15 : decode cX11_read 15 = .ok (.aload_n 0, 1) := by decide +kernel
theorem dX11_read_16 : decode cX11_read 16 = .ok (.getfield 74, 3) := by decide +kernel
theorem dX11_read_19 : decode cX11_read 19 = .ok (.ifCond .le 9, 3) := by decide +kernel
theorem dX11_read_22 : decode cX11_read 22 = .ok (.ldc2_w 102, 3) := by decide +kernel
theorem dX11_read_25 : decode cX11_read 25 = .ok (.goto 14, 3) := by decide +kernel
theorem dX11_read_28 : decode cX11_read 28 = .ok (.aload_n 0, 1) := by decide +kernel
theorem dX11_read_29 : decode cX11_read 29 = .ok (.getfield 20, 3) := by decide +kernel
theorem dX11_read_32 : decode cX11_read 32 = .ok (.bipush 60, 2) := by decide +kernel
theorem dX11_read_34 : decode cX11_read 34 = .ok (.iload_n 1, 1) := by decide +kernel
theorem dX11_read_35 : decode cX11_read 35 = .ok (.imul, 1) := by decide +kernel
theorem dX11_read_36 : decode cX11_read 36 = .ok (.iload_n 2, 1) := by decide +kernel
theorem dX11_read_37 : decode cX11_read 37 = .ok (.iadd, 1) := by decide +kernel
theorem dX11_read_38 : decode cX11_read 38 = .ok (.laload, 1) := by decide +kernel
theorem dX11_read_39 : decode cX11_read 39 = .ok (.lreturn, 1) := by decide +kernel
set_option maxRecDepth 20000 in
theorem ggX11_pour_X11_no : GoodIn wsX11_pour wsX11_no := goodIn_r _ [10, 2, 11, 12, 13, 14, 15, 16, 17, 18, 19, 20, 21, 22, 23, 24, 25, 26, 27, 28, 29, 30, 31, 32, 33, 34, 35, 36, 37, 38, 39, 40, 41, 42, 43, 44, 45, 46, 47, 48, 49, 50, 51, 52, 53, 54, 55, 56] (by decide +kernel) (by decide +kernel)
set_option maxRecDepth 20000 in
theorem gX11_pour_X11_no : GoodIn wsX11_pour (wsV RX11 86 RX11 yX11_no wsX11_no) := goodIn_app (goodIn_of _ (by decide +kernel)) ggX11_pour_X11_no
theorem dX11_pour_0 : decode cX11_pour 0 = .ok (.aload_n 0, 1) := by decide +kernel
theorem dX11_pour_1 : decode cX11_pour 1 = .ok (.iconst 0, 1) := by decide +kernel
theorem dX11_pour_2 : decode cX11_pour 2 = .ok (.putfield 71, 3) := by decide +kernel
theorem dX11_pour_5 : decode cX11_pour 5 = .ok (.aload_n 0, 1) := by decide +kernel
theorem dX11_pour_6 : decode cX11_pour 6 = .ok (.iconst 0, 1) := by decide +kernel
theorem dX11_pour_7 : decode cX11_pour 7 = .ok (.putfield 74, 3) := by decide +kernel
theorem dX11_pour_10 : decode cX11_pour 10 = .ok (.iload_n 1, 1) := by decide +kernel
theorem dX11_pour_11 : decode cX11_pour 11 = .ok (.ifCond .lt 17, 3) := by decide +kernel
theorem dX11_pour_14 : decode cX11_pour 14 = .ok (.iload_n 1, 1) := by decide +kernel
theorem dX11_pour_15 : decode cX11_pour 15 = .ok (.iconst 4, 1) := by decide +kernel
theorem dX11_pour_16 : decode cX11_pour 16 = .ok (.if_icmp .ge 12, 3) := by decide +kernel
theorem dX11_pour_19 : decode cX11_pour 19 = .ok (.iload_n 3, 1) := by decide +kernel
theorem dX11_pour_20 : decode cX11_pour 20 = .ok (.ifCond .lt 8, 3) := by decide +kernel
theorem dX11_pour_23 : decode cX11_pour 23 = .ok (.iload_n 3, 1) := by decide +kernel
theorem dX11_pour_24 : decode cX11_pour 24 = .ok (.iconst 4, 1) := by decide +kernel
theorem dX11_pour_25 : decode cX11_pour 25 = .ok (.if_icmp .lt 9, 3) := by decide +kernel
theorem dX11_pour_28 : decode cX11_pour 28 = .ok (.aload_n 0, 1) := by decide +kernel
theorem dX11_pour_29 : decode cX11_pour 29 = .ok (.iconst 1, 1) := by decide +kernel
theorem dX11_pour_30 : decode cX11_pour 30 = .ok (.invokevirtual 86, 3) := by decide +kernel
theorem dX11_pour_33 : decode cX11_pour 33 = .ok (.ireturn, 1) := by decide +kernel
theorem dX11_pour_34 : decode cX11_pour 34 = .ok (.aload_n 0, 1) := by decide +kernel
theorem dX11_pour_35 : decode cX11_pour 35 = .ok (.getfield 17, 3) := by decide +kernel
theorem dX11_pour_38 : decode cX11_pour 38 = .ok (.iload_n 1, 1) := by decide +kernel
theorem dX11_pour_39 : decode cX11_pour 39 = .ok (.iaload, 1) := by decide +kernel
theorem dX11_pour_40 : decode cX11_pour 40 = .ok (.ifCond .lt 12, 3) := by decide +kernel
theorem dX11_pour_43 : decode cX11_pour 43 = .ok (.aload_n 0, 1) := by decide +kernel
theorem dX11_pour_44 : decode cX11_pour 44 = .ok (.getfield 17, 3) := by decide +kernel
theorem dX11_pour_47 : decode cX11_pour 47 = .ok (.iload_n 3, 1) := by decide +kernel
theorem dX11_pour_48 : decode cX11_pour 48 = .ok (.iaload, 1) := by decide +kernel
theorem dX11_pour_49 : decode cX11_pour 49 = .ok (.ifCond .ge 9, 3) := by decide +kernel
theorem dX11_pour_52 : decode cX11_pour 52 = .ok (.aload_n 0, 1) := by decide +kernel
theorem dX11_pour_53 : decode cX11_pour 53 = .ok (.iconst 3, 1) := by decide +kernel
theorem dX11_pour_54 : decode cX11_pour 54 = .ok (.invokevirtual 86, 3) := by decide +kernel
theorem dX11_pour_57 : decode cX11_pour 57 = .ok (.ireturn, 1) := by decide +kernel
theorem dX11_pour_58 : decode cX11_pour 58 = .ok (.aload_n 0, 1) := by decide +kernel
theorem dX11_pour_59 : decode cX11_pour 59 = .ok (.getfield 13, 3) := by decide +kernel
theorem dX11_pour_62 : decode cX11_pour 62 = .ok (.iload_n 1, 1) := by decide +kernel
theorem dX11_pour_63 : decode cX11_pour 63 = .ok (.iaload, 1) := by decide +kernel
theorem dX11_pour_64 : decode cX11_pour 64 = .ok (.aload_n 0, 1) := by decide +kernel
theorem dX11_pour_65 : decode cX11_pour 65 = .ok (.getfield 13, 3) := by decide +kernel
theorem dX11_pour_68 : decode cX11_pour 68 = .ok (.iload_n 3, 1) := by decide +kernel
theorem dX11_pour_69 : decode cX11_pour 69 = .ok (.iaload, 1) := by decide +kernel
theorem dX11_pour_70 : decode cX11_pour 70 = .ok (.if_icmp .eq 10, 3) := by decide +kernel
theorem dX11_pour_73 : decode cX11_pour 73 = .ok (.aload_n 0, 1) := by decide +kernel
theorem dX11_pour_74 : decode cX11_pour 74 = .ok (.bipush 11, 2) := by decide +kernel
theorem dX11_pour_76 : decode cX11_pour 76 = .ok (.invokevirtual 86, 3) := by decide +kernel
theorem dX11_pour_79 : decode cX11_pour 79 = .ok (.ireturn, 1) := by decide +kernel
theorem dX11_pour_80 : decode cX11_pour 80 = .ok (.iload 5, 2) := by decide +kernel
theorem dX11_pour_82 : decode cX11_pour 82 = .ok (.ifCond .ge 10, 3) := by decide +kernel
theorem dX11_pour_85 : decode cX11_pour 85 = .ok (.aload_n 0, 1) := by decide +kernel
theorem dX11_pour_86 : decode cX11_pour 86 = .ok (.bipush 6, 2) := by decide +kernel
theorem dX11_pour_88 : decode cX11_pour 88 = .ok (.invokevirtual 86, 3) := by decide +kernel
theorem dX11_pour_91 : decode cX11_pour 91 = .ok (.ireturn, 1) := by decide +kernel
theorem dX11_pour_92 : decode cX11_pour 92 = .ok (.iload_n 2, 1) := by decide +kernel
theorem dX11_pour_93 : decode cX11_pour 93 = .ok (.ifCond .lt 43, 3) := by decide +kernel
theorem dX11_pour_96 : decode cX11_pour 96 = .ok (.iload 4, 2) := by decide +kernel
theorem dX11_pour_98 : decode cX11_pour 98 = .ok (.ifCond .lt 38, 3) := by decide +kernel
theorem dX11_pour_101 : decode cX11_pour 101 = .ok (.iload_n 2, 1) := by decide +kernel
theorem dX11_pour_102 : decode cX11_pour 102 = .ok (.i2l, 1) := by decide +kernel
theorem dX11_pour_103 : decode cX11_pour 103 = .ok (.iload 5, 2) := by decide +kernel
theorem dX11_pour_105 : decode cX11_pour 105 = .ok (.i2l, 1) := by decide +kernel
theorem dX11_pour_106 : decode cX11_pour 106 = .ok (.ladd, 1) := by decide +kernel
theorem dX11_pour_107 : decode cX11_pour 107 = .ok (.aload_n 0, 1) := by decide +kernel
theorem dX11_pour_108 : decode cX11_pour 108 = .ok (.getfield 17, 3) := by decide +kernel
theorem dX11_pour_111 : decode cX11_pour 111 = .ok (.iload_n 1, 1) := by decide +kernel
theorem dX11_pour_112 : decode cX11_pour 112 = .ok (.iaload, 1) := by decide +kernel
theorem dX11_pour_113 : decode cX11_pour 113 = .ok (.i2l, 1) := by decide +kernel
theorem dX11_pour_114 : decode cX11_pour 114 = .ok (.lcmp, 1) := by decide +kernel
theorem dX11_pour_115 : decode cX11_pour 115 = .ok (.ifCond .gt 21, 3) := by decide +kernel
theorem dX11_pour_118 : decode cX11_pour 118 = .ok (.iload 4, 2) := by decide +kernel
theorem dX11_pour_120 : decode cX11_pour 120 = .ok (.i2l, 1) := by decide +kernel
theorem dX11_pour_121 : decode cX11_pour 121 = .ok (.iload 5, 2) := by decide +kernel
theorem dX11_pour_123 : decode cX11_pour 123 = .ok (.i2l, 1) := by decide +kernel
theorem dX11_pour_124 : decode cX11_pour 124 = .ok (.ladd, 1) := by decide +kernel
theorem dX11_pour_125 : decode cX11_pour 125 = .ok (.aload_n 0, 1) := by decide +kernel
theorem dX11_pour_126 : decode cX11_pour 126 = .ok (.getfield 17, 3) := by decide +kernel
theorem dX11_pour_129 : decode cX11_pour 129 = .ok (.iload_n 3, 1) := by decide +kernel
theorem dX11_pour_130 : decode cX11_pour 130 = .ok (.iaload, 1) := by decide +kernel
theorem dX11_pour_131 : decode cX11_pour 131 = .ok (.i2l, 1) := by decide +kernel
theorem dX11_pour_132 : decode cX11_pour 132 = .ok (.lcmp, 1) := by decide +kernel
theorem dX11_pour_133 : decode cX11_pour 133 = .ok (.ifCond .le 9, 3) := by decide +kernel
theorem dX11_pour_136 : decode cX11_pour 136 = .ok (.aload_n 0, 1) := by decide +kernel
theorem dX11_pour_137 : decode cX11_pour 137 = .ok (.iconst 4, 1) := by decide +kernel
theorem dX11_pour_138 : decode cX11_pour 138 = .ok (.invokevirtual 86, 3) := by decide +kernel
theorem dX11_pour_141 : decode cX11_pour 141 = .ok (.ireturn, 1) := by decide +kernel
theorem dX11_pour_142 : decode cX11_pour 142 = .ok (.iload_n 2, 1) := by decide +kernel
theorem dX11_pour_143 : decode cX11_pour 143 = .ok (.iload 4, 2) := by decide +kernel
theorem dX11_pour_145 : decode cX11_pour 145 = .ok (.if_icmp .ge 7, 3) := by decide +kernel
theorem dX11_pour_148 : decode cX11_pour 148 = .ok (.iconst 1, 1) := by decide +kernel
theorem dX11_pour_149 : decode cX11_pour 149 = .ok (.goto 4, 3) := by decide +kernel
theorem dX11_pour_152 : decode cX11_pour 152 = .ok (.iconst 0, 1) := by decide +kernel
theorem dX11_pour_153 : decode cX11_pour 153 = .ok (.istore 6, 2) := by decide +kernel
theorem dX11_pour_155 : decode cX11_pour 155 = .ok (.iconst 0, 1) := by decide +kernel
theorem dX11_pour_156 : decode cX11_pour 156 = .ok (.istore 7, 2) := by decide +kernel
theorem dX11_pour_158 : decode cX11_pour 158 = .ok (.iload 7, 2) := by decide +kernel
theorem dX11_pour_160 : decode cX11_pour 160 = .ok (.iload 5, 2) := by decide +kernel
theorem dX11_pour_162 : decode cX11_pour 162 = .ok (.if_icmp .ge 57, 3) := by decide +kernel
theorem dX11_pour_165 : decode cX11_pour 165 = .ok (.iload 6, 2) := by decide +kernel
theorem dX11_pour_167 : decode cX11_pour 167 = .ok (.ifCond .eq 13, 3) := by decide +kernel
theorem dX11_pour_170 : decode cX11_pour 170 = .ok (.iload 5, 2) := by decide +kernel
theorem dX11_pour_172 : decode cX11_pour 172 = .ok (.iconst 1, 1) := by decide +kernel
theorem dX11_pour_173 : decode cX11_pour 173 = .ok (.isub, 1) := by decide +kernel
theorem dX11_pour_174 : decode cX11_pour 174 = .ok (.iload 7, 2) := by decide +kernel
theorem dX11_pour_176 : decode cX11_pour 176 = .ok (.isub, 1) := by decide +kernel
theorem dX11_pour_177 : decode cX11_pour 177 = .ok (.goto 5, 3) := by decide +kernel
theorem dX11_pour_180 : decode cX11_pour 180 = .ok (.iload 7, 2) := by decide +kernel
theorem dX11_pour_182 : decode cX11_pour 182 = .ok (.istore 8, 2) := by decide +kernel
theorem dX11_pour_184 : decode cX11_pour 184 = .ok (.aload_n 0, 1) := by decide +kernel
theorem dX11_pour_185 : decode cX11_pour 185 = .ok (.getfield 20, 3) := by decide +kernel
theorem dX11_pour_188 : decode cX11_pour 188 = .ok (.bipush 60, 2) := by decide +kernel
theorem dX11_pour_190 : decode cX11_pour 190 = .ok (.iload_n 3, 1) := by decide +kernel
theorem dX11_pour_191 : decode cX11_pour 191 = .ok (.imul, 1) := by decide +kernel
theorem dX11_pour_192 : decode cX11_pour 192 = .ok (.iload 4, 2) := by decide +kernel
theorem dX11_pour_194 : decode cX11_pour 194 = .ok (.iadd, 1) := by decide +kernel
theorem dX11_pour_195 : decode cX11_pour 195 = .ok (.iload 8, 2) := by decide +kernel
theorem dX11_pour_197 : decode cX11_pour 197 = .ok (.iadd, 1) := by decide +kernel
theorem dX11_pour_198 : decode cX11_pour 198 = .ok (.aload_n 0, 1) := by decide +kernel
theorem dX11_pour_199 : decode cX11_pour 199 = .ok (.getfield 20, 3) := by decide +kernel
theorem dX11_pour_202 : decode cX11_pour 202 = .ok (.bipush 60, 2) := by decide +kernel
theorem dX11_pour_204 : decode cX11_pour 204 = .ok (.iload_n 1, 1) := by decide +kernel
theorem dX11_pour_205 : decode cX11_pour 205 = .ok (.imul, 1) := by decide +kernel
theorem dX11_pour_206 : decode cX11_pour 206 = .ok (.iload_n 2, 1) := by decide +kernel
theorem dX11_pour_207 : decode cX11_pour 207 = .ok (.iadd, 1) := by decide +kernel
theorem dX11_pour_208 : decode cX11_pour 208 = .ok (.iload 8, 2) := by decide +kernel
theorem dX11_pour_210 : decode cX11_pour 210 = .ok (.iadd, 1) := by decide +kernel
theorem dX11_pour_211 : decode cX11_pour 211 = .ok (.laload, 1) := by decide +kernel
theorem dX11_pour_212 : decode cX11_pour 212 = .ok (.lastore, 1) := by decide +kernel
theorem dX11_pour_213 : decode cX11_pour 213 = .ok (.iinc 7 1, 3) := by decide +kernel
theorem dX11_pour_216 : decode cX11_pour 216 = .ok (.goto (-58), 3) := by decide +kernel
theorem dX11_pour_219 : decode cX11_pour 219 = .ok (.iconst 1, 1) := by decide +kernel
theorem dX11_pour_220 : decode cX11_pour 220 = .ok (.ireturn, 1) := by decide +kernel
theorem dX11_numberOf_0 : decode cX11_numberOf 0 = .ok (.aload_n 0, 1) := by decide +kernel
theorem dX11_numberOf_1 : decode cX11_numberOf 1 = .ok (.getfield 20, 3) := by decide +kernel
theorem dX11_numberOf_4 : decode cX11_numberOf 4 = .ok (.bipush 60, 2) := by decide +kernel
theorem dX11_numberOf_6 : decode cX11_numberOf 6 = .ok (.iload_n 1, 1) := by decide +kernel
theorem dX11_numberOf_7 : decode cX11_numberOf 7 = .ok (.imul, 1) := by decide +kernel
theorem dX11_numberOf_8 : decode cX11_numberOf 8 = .ok (.iload_n 2, 1) := by decide +kernel
theorem dX11_numberOf_9 : decode cX11_numberOf 9 = .ok (.iadd, 1) := by decide +kernel
theorem dX11_numberOf_10 : decode cX11_numberOf 10 = .ok (.laload, 1) := by decide +kernel
theorem dX11_numberOf_11 : decode cX11_numberOf 11 = .ok (.lreturn, 1) := by decide +kernel
set_option maxRecDepth 20000 in
theorem ggX11_isTray_X11_isIn : GoodIn wsX11_isTray wsX11_isIn := goodIn_r _ [5] (by decide +kernel) (by decide +kernel)
set_option maxRecDepth 20000 in
theorem gX11_isTray_X11_isIn : GoodIn wsX11_isTray (va_wsS RX11 106 yX11_isIn wsX11_isIn) := goodIn_app (goodIn_of _ (by decide +kernel)) ggX11_isTray_X11_isIn
theorem dX11_isTray_0 : decode cX11_isTray 0 = .ok (.iload_n 1, 1) := by decide +kernel
theorem dX11_isTray_1 : decode cX11_isTray 1 = .ok (.i2l, 1) := by decide +kernel
theorem dX11_isTray_2 : decode cX11_isTray 2 = .ok (.lconst 0, 1) := by decide +kernel
theorem dX11_isTray_3 : decode cX11_isTray 3 = .ok (.ldc2_w 104, 3) := by decide +kernel
theorem dX11_isTray_6 : decode cX11_isTray 6 = .ok (.invokestatic 106, 3) := by decide +kernel
theorem dX11_isTray_9 : decode cX11_isTray 9 = .ok (.ireturn, 1) := by decide +kernel
theorem dX11_has_0 : decode cX11_has 0 = .ok (.iload_n 0, 1) := by decide +kernel
theorem dX11_has_1 : decode cX11_has 1 = .ok (.iload_n 1, 1) := by decide +kernel
theorem dX11_has_2 : decode cX11_has 2 = .ok (.ishr, 1) := by decide +kernel
theorem dX11_has_3 : decode cX11_has 3 = .ok (.iconst 1, 1) := by decide +kernel
theorem dX11_has_4 : decode cX11_has 4 = .ok (.iand, 1) := by decide +kernel
theorem dX11_has_5 : decode cX11_has 5 = .ok (.iconst 1, 1) := by decide +kernel
theorem dX11_has_6 : decode cX11_has 6 = .ok (.if_icmp .ne 7, 3) := by decide +kernel
theorem dX11_has_9 : decode cX11_has 9 = .ok (.iconst 1, 1) := by decide +kernel
theorem dX11_has_10 : decode cX11_has 10 = .ok (.goto 4, 3) := by decide +kernel
theorem dX11_has_13 : decode cX11_has 13 = .ok (.iconst 0, 1) := by decide +kernel
theorem dX11_has_14 : decode cX11_has 14 = .ok (.ireturn, 1) := by decide +kernel
set_option maxRecDepth 20000 in
theorem ggX11_sizeOf_X11_has : GoodIn wsX11_sizeOf wsX11_has := goodIn_r _ [4] (by decide +kernel) (by decide +kernel)
set_option maxRecDepth 20000 in
theorem gX11_sizeOf_X11_has : GoodIn wsX11_sizeOf (va_wsS RX11 110 yX11_has wsX11_has) := goodIn_app (goodIn_of _ (by decide +kernel)) ggX11_sizeOf_X11_has
theorem dX11_sizeOf_0 : decode cX11_sizeOf 0 = .ok (.iconst 0, 1) := by decide +kernel
theorem dX11_sizeOf_1 : decode cX11_sizeOf 1 = .ok (.istore_n 1, 1) := by decide +kernel
theorem dX11_sizeOf_2 : decode cX11_sizeOf 2 = .ok (.iconst 0, 1) := by decide +kernel
theorem dX11_sizeOf_3 : decode cX11_sizeOf 3 = .ok (.istore_n 2, 1) := by decide +kernel
theorem dX11_sizeOf_4 : decode cX11_sizeOf 4 = .ok (.iload_n 2, 1) := by decide +kernel
theorem dX11_sizeOf_5 : decode cX11_sizeOf 5 = .ok (.bipush 10, 2) := by decide +kernel
theorem dX11_sizeOf_7 : decode cX11_sizeOf 7 = .ok (.if_icmp .ge 25, 3) := by decide +kernel
theorem dX11_sizeOf_10 : decode cX11_sizeOf 10 = .ok (.iload_n 1, 1) := by decide +kernel
theorem dX11_sizeOf_11 : decode cX11_sizeOf 11 = .ok (.iload_n 0, 1) := by decide +kernel
theorem dX11_sizeOf_12 : decode cX11_sizeOf 12 = .ok (.iload_n 2, 1) := by decide +kernel
theorem dX11_sizeOf_13 : decode cX11_sizeOf 13 = .ok (.invokestatic 110, 3) := by decide +kernel
theorem dX11_sizeOf_16 : decode cX11_sizeOf 16 = .ok (.ifCond .eq 7, 3) := by decide +kernel
theorem dX11_sizeOf_19 : decode cX11_sizeOf 19 = .ok (.iconst 1, 1) := by decide +kernel
theorem dX11_sizeOf_20 : decode cX11_sizeOf 20 = .ok (.goto 4, 3) := by decide +kernel
theorem dX11_sizeOf_23 : decode cX11_sizeOf 23 = .ok (.iconst 0, 1) := by decide +kernel
theorem dX11_sizeOf_24 : decode cX11_sizeOf 24 = .ok (.iadd, 1) := by decide +kernel
theorem dX11_sizeOf_25 : decode cX11_sizeOf 25 = .ok (.istore_n 1, 1) := by decide +kernel
theorem dX11_sizeOf_26 : decode cX11_sizeOf 26 = .ok (.iinc 2 1, 3) := by decide +kernel
theorem dX11_sizeOf_29 : decode cX11_sizeOf 29 = .ok (.goto (-25), 3) := by decide +kernel
theorem dX11_sizeOf_32 : decode cX11_sizeOf 32 = .ok (.iload_n 1, 1) := by decide +kernel
theorem dX11_sizeOf_33 : decode cX11_sizeOf 33 = .ok (.ireturn, 1) := by decide +kernel
theorem dX11_look2_0 : decode cX11_look2 0 = .ok (.iload_n 1, 1) := by decide +kernel
theorem dX11_look2_1 : decode cX11_look2 1 = .ok (.aload_n 0, 1) := by decide +kernel
theorem dX11_look2_2 : decode cX11_look2 2 = .ok (.getfield 114, 3) := by decide +kernel
theorem dX11_look2_5 : decode cX11_look2 5 = .ok (.if_icmp .ge 16, 3) := by decide +kernel
theorem dX11_look2_8 : decode cX11_look2 8 = .ok (.aload_n 0, 1) := by decide +kernel
theorem dX11_look2_9 : decode cX11_look2 9 = .ok (.getfield 24, 3) := by decide +kernel
theorem dX11_look2_12 : decode cX11_look2 12 = .ok (.iload_n 1, 1) := by decide +kernel
theorem dX11_look2_13 : decode cX11_look2 13 = .ok (.baload, 1) := by decide +kernel
theorem dX11_look2_14 : decode cX11_look2 14 = .ok (.sipush 255, 3) := by decide +kernel
theorem dX11_look2_17 : decode cX11_look2 17 = .ok (.iand, 1) := by decide +kernel
theorem dX11_look2_18 : decode cX11_look2 18 = .ok (.goto 4, 3) := by decide +kernel
theorem dX11_look2_21 : decode cX11_look2 21 = .ok (.iconst 0, 1) := by decide +kernel
theorem dX11_look2_22 : decode cX11_look2 22 = .ok (.ireturn, 1) := by decide +kernel
theorem dX11_isLetter_0 : decode cX11_isLetter 0 = .ok (.iload_n 0, 1) := by decide +kernel
theorem dX11_isLetter_1 : decode cX11_isLetter 1 = .ok (.bipush 97, 2) := by decide +kernel
theorem dX11_isLetter_3 : decode cX11_isLetter 3 = .ok (.if_icmp .lt 13, 3) := by decide +kernel
theorem dX11_isLetter_6 : decode cX11_isLetter 6 = .ok (.iload_n 0, 1) := by decide +kernel
theorem dX11_isLetter_7 : decode cX11_isLetter 7 = .ok (.bipush 122, 2) := by decide +kernel
theorem dX11_isLetter_9 : decode cX11_isLetter 9 = .ok (.if_icmp .gt 7, 3) := by decide +kernel
theorem dX11_isLetter_12 : decode cX11_isLetter 12 = .ok (.iconst 1, 1) := by decide +kernel
theorem dX11_isLetter_13 : decode cX11_isLetter 13 = .ok (.goto 4, 3) := by decide +kernel
theorem dX11_isLetter_16 : decode cX11_isLetter 16 = .ok (.iconst 0, 1) := by decide +kernel
theorem dX11_isLetter_17 : decode cX11_isLetter 17 = .ok (.ireturn, 1) := by decide +kernel
theorem dX11_isDigit_0 : decode cX11_isDigit 0 = .ok (.iload_n 0, 1) := by decide +kernel
theorem dX11_isDigit_1 : decode cX11_isDigit 1 = .ok (.bipush 48, 2) := by decide +kernel
theorem dX11_isDigit_3 : decode cX11_isDigit 3 = .ok (.if_icmp .lt 13, 3) := by decide +kernel
theorem dX11_isDigit_6 : decode cX11_isDigit 6 = .ok (.iload_n 0, 1) := by decide +kernel
theorem dX11_isDigit_7 : decode cX11_isDigit 7 = .ok (.bipush 57, 2) := by decide +kernel
theorem dX11_isDigit_9 : decode cX11_isDigit 9 = .ok (.if_icmp .gt 7, 3) := by decide +kernel
theorem dX11_isDigit_12 : decode cX11_isDigit 12 = .ok (.iconst 1, 1) := by decide +kernel
theorem dX11_isDigit_13 : decode cX11_isDigit 13 = .ok (.goto 4, 3) := by decide +kernel
theorem dX11_isDigit_16 : decode cX11_isDigit 16 = .ok (.iconst 0, 1) := by decide +kernel
theorem dX11_isDigit_17 : decode cX11_isDigit 17 = .ok (.ireturn, 1) := by decide +kernel
theorem dX11_isSignByte_0 : decode cX11_isSignByte 0 = .ok (.iload_n 1, 1) := by decide +kernel
theorem dX11_isSignByte_1 : decode cX11_isSignByte 1 = .ok (.bipush 59, 2) := by decide +kernel
theorem dX11_isSignByte_3 : decode cX11_isSignByte 3 = .ok (.if_icmp .eq 21, 3) := by decide +kernel
theorem dX11_isSignByte_6 : decode cX11_isSignByte 6 = .ok (.iload_n 1, 1) := by decide +kernel
theorem dX11_isSignByte_7 : decode cX11_isSignByte 7 = .ok (.bipush 60, 2) := by decide +kernel
theorem dX11_isSignByte_9 : decode cX11_isSignByte 9 = .ok (.if_icmp .eq 15, 3) := by decide +kernel
theorem dX11_isSignByte_12 : decode cX11_isSignByte 12 = .ok (.iload_n 1, 1) := by decide +kernel
theorem dX11_isSignByte_13 : decode cX11_isSignByte 13 = .ok (.bipush 62, 2) := by decide +kernel
theorem dX11_isSignByte_15 : decode cX11_isSignByte 15 = .ok (.if_icmp .eq 9, 3) := by decide +kernel
theorem dX11_isSignByte_18 : decode cX11_isSignByte 18 = .ok (.iload_n 1, 1) := by decide +kernel
theorem dX11_isSignByte_19 : decode cX11_isSignByte 19 = .ok (.bipush 61, 2) := by decide +kernel
theorem dX11_isSignByte_21 : decode cX11_isSignByte 21 = .ok (.if_icmp .ne 7, 3) := by decide +kernel
theorem dX11_isSignByte_24 : decode cX11_isSignByte 24 = .ok (.iconst 1, 1) := by decide +kernel
theorem dX11_isSignByte_25 : decode cX11_isSignByte 25 = .ok (.goto 4, 3) := by decide +kernel
theorem dX11_isSignByte_28 : decode cX11_isSignByte 28 = .ok (.iconst 0, 1) := by decide +kernel
theorem dX11_isSignByte_29 : decode cX11_isSignByte 29 = .ok (.ireturn, 1) := by decide +kernel
set_option maxRecDepth 20000 in
theorem ggX11_next_X11_look2 : GoodIn wsX11_next wsX11_look2 := goodIn_r _ [15, 3, 16, 27, 28, 29, 30, 31, 32, 33, 34, 35, 36, 37, 38, 39, 40, 41, 42, 43, 44, 45, 46, 47, 48, 49, 50, 51, 52, 53, 54, 55, 56, 57, 58, 59, 60, 61, 62, 63, 64, 65, 66, 67, 68, 69, 70, 71, 72] (by decide +kernel) (by decide +kernel)
set_option maxRecDepth 20000 in
theorem gX11_next_X11_look2 : GoodIn wsX11_next (wsV RX11 123 RX11 yX11_look2 wsX11_look2) := goodIn_app (goodIn_of _ (by decide +kernel)) ggX11_next_X11_look2
set_option maxRecDepth 20000 in
theorem ggX11_next_X11_isLetter : GoodIn wsX11_next wsX11_isLetter := goodIn_r _ [19] (by decide +kernel) (by decide +kernel)
set_option maxRecDepth 20000 in
theorem gX11_next_X11_isLetter : GoodIn wsX11_next (va_wsS RX11 129 yX11_isLetter wsX11_isLetter) := goodIn_app (goodIn_of _ (by decide +kernel)) ggX11_next_X11_isLetter
set_option maxRecDepth 20000 in
theorem ggX11_next_X11_isDigit : GoodIn wsX11_next wsX11_isDigit := goodIn_r _ [22] (by decide +kernel) (by decide +kernel)
set_option maxRecDepth 20000 in
theorem gX11_next_X11_isDigit : GoodIn wsX11_next (va_wsS RX11 142 yX11_isDigit wsX11_isDigit) := goodIn_app (goodIn_of _ (by decide +kernel)) ggX11_next_X11_isDigit
set_option maxRecDepth 20000 in
theorem ggX11_next_X11_isSignByte : GoodIn wsX11_next wsX11_isSignByte := goodIn_r _ [26] (by decide +kernel) (by decide +kernel)
set_option maxRecDepth 20000 in
theorem gX11_next_X11_isSignByte : GoodIn wsX11_next (wsV RX11 148 RX11 yX11_isSignByte wsX11_isSignByte) := goodIn_app (goodIn_of _ (by decide +kernel)) ggX11_next_X11_isSignByte
theorem dX11_next_0 : decode cX11_next 0 = .ok (.aload_n 0, 1) := by decide +kernel
theorem dX11_next_1 : decode cX11_next 1 = .ok (.aload_n 0, 1) := by decide +kernel
theorem dX11_next_2 : decode cX11_next 2 = .ok (.getfield 117, 3) := by decide +kernel
theorem dX11_next_5 : decode cX11_next 5 = .ok (.putfield 120, 3) := by decide +kernel
theorem dX11_next_8 : decode cX11_next 8 = .ok (.aload_n 0, 1) := by decide +kernel
theorem dX11_next_9 : decode cX11_next 9 = .ok (.getfield 120, 3) := by decide +kernel
theorem dX11_next_12 : decode cX11_next 12 = .ok (.aload_n 0, 1) := by decide +kernel
theorem dX11_next_13 : decode cX11_next 13 = .ok (.getfield 114, 3) := by decide +kernel
theorem dX11_next_16 : decode cX11_next 16 = .ok (.if_icmp .ge 42, 3) := by decide +kernel
theorem dX11_next_19 : decode cX11_next 19 = .ok (.aload_n 0, 1) := by decide +kernel
theorem dX11_next_20 : decode cX11_next 20 = .ok (.aload_n 0, 1) := by decide +kernel
theorem dX11_next_21 : decode cX11_next 21 = .ok (.getfield 120, 3) := by decide +kernel
theorem dX11_next_24 : decode cX11_next 24 = .ok (.invokevirtual 123, 3) := by decide +kernel
theorem dX11_next_27 : decode cX11_next 27 = .ok (.bipush 10, 2) := by decide +kernel
theorem dX11_next_29 : decode cX11_next 29 = .ok (.if_icmp .eq 16, 3) := by decide +kernel
theorem dX11_next_32 : decode cX11_next 32 = .ok (.aload_n 0, 1) := by decide +kernel
theorem dX11_next_33 : decode cX11_next 33 = .ok (.aload_n 0, 1) := by decide +kernel
theorem dX11_next_34 : decode cX11_next 34 = .ok (.getfield 120, 3) := by decide +kernel
theorem dX11_next_37 : decode cX11_next 37 = .ok (.invokevirtual 123, 3) := by decide +kernel
theorem dX11_next_40 : decode cX11_next 40 = .ok (.bipush 32, 2) := by decide +kernel
theorem dX11_next_42 : decode cX11_next 42 = .ok (.if_icmp .ne 16, 3) := by decide +kernel
theorem dX11_next_45 : decode cX11_next 45 = .ok (.aload_n 0, 1) := by decide +kernel
theorem dX11_next_46 : decode cX11_next 46 = .ok (.dup, 1) := by decide +kernel
theorem dX11_next_47 : decode cX11_next 47 = .ok (.getfield 120, 3) := by decide +kernel
theorem dX11_next_50 : decode cX11_next 50 = .ok (.iconst 1, 1) := by decide +kernel
theorem dX11_next_51 : decode cX11_next 51 = .ok (.iadd, 1) := by decide +kernel
theorem dX11_next_52 : decode cX11_next 52 = .ok (.putfield 120, 3) := by decide +kernel
theorem dX11_next_55 : decode cX11_next 55 = .ok (.goto (-47), 3) := by decide +kernel
theorem dX11_next_58 : decode cX11_next 58 = .ok (.aload_n 0, 1) := by decide +kernel
theorem dX11_next_59 : decode cX11_next 59 = .ok (.aload_n 0, 1) := by decide +kernel
theorem dX11_next_60 : decode cX11_next 60 = .ok (.getfield 120, 3) := by decide +kernel
theorem dX11_next_63 : decode cX11_next 63 = .ok (.putfield 117, 3) := by decide +kernel
theorem dX11_next_66 : decode cX11_next 66 = .ok (.aload_n 0, 1) := by decide +kernel
theorem dX11_next_67 : decode cX11_next 67 = .ok (.getfield 120, 3) := by decide +kernel
theorem dX11_next_70 : decode cX11_next 70 = .ok (.aload_n 0, 1) := by decide +kernel
theorem dX11_next_71 : decode cX11_next 71 = .ok (.getfield 114, 3) := by decide +kernel
theorem dX11_next_74 : decode cX11_next 74 = .ok (.if_icmp .lt 9, 3) := by decide +kernel
theorem dX11_next_77 : decode cX11_next 77 = .ok (.aload_n 0, 1) := by decide +kernel
theorem dX11_next_78 : decode cX11_next 78 = .ok (.iconst 0, 1) := by decide +kernel
theorem dX11_next_79 : decode cX11_next 79 = .ok (.putfield 126, 3) := by decide +kernel
theorem dX11_next_82 : decode cX11_next 82 = .ok (.return_, 1) := by decide +kernel
theorem dX11_next_83 : decode cX11_next 83 = .ok (.aload_n 0, 1) := by decide +kernel
theorem dX11_next_84 : decode cX11_next 84 = .ok (.aload_n 0, 1) := by decide +kernel
theorem dX11_next_85 : decode cX11_next 85 = .ok (.getfield 120, 3) := by decide +kernel
theorem dX11_next_88 : decode cX11_next 88 = .ok (.invokevirtual 123, 3) := by decide +kernel
theorem dX11_next_91 : decode cX11_next 91 = .ok (.istore_n 1, 1) := by decide +kernel
theorem dX11_next_92 : decode cX11_next 92 = .ok (.iload_n 1, 1) := by decide +kernel
theorem dX11_next_93 : decode cX11_next 93 = .ok (.invokestatic 129, 3) := by decide +kernel
theorem dX11_next_96 : decode cX11_next 96 = .ok (.ifCond .eq 102, 3) := by decide +kernel
theorem dX11_next_99 : decode cX11_next 99 = .ok (.aload_n 0, 1) := by decide +kernel
theorem dX11_next_100 : decode cX11_next 100 = .ok (.iconst 1, 1) := by decide +kernel
theorem dX11_next_101 : decode cX11_next 101 = .ok (.putfield 126, 3) := by decide +kernel
theorem dX11_next_104 : decode cX11_next 104 = .ok (.aload_n 0, 1) := by decide +kernel
theorem dX11_next_105 : decode cX11_next 105 = .ok (.lconst 0, 1) := by decide +kernel
theorem dX11_next_106 : decode cX11_next 106 = .ok (.putfield 132, 3) := by decide +kernel
theorem dX11_next_109 : decode cX11_next 109 = .ok (.aload_n 0, 1) := by decide +kernel
theorem dX11_next_110 : decode cX11_next 110 = .ok (.aload_n 0, 1) := by decide +kernel
theorem dX11_next_111 : decode cX11_next 111 = .ok (.getfield 117, 3) := by decide +kernel
theorem dX11_next_114 : decode cX11_next 114 = .ok (.invokevirtual 123, 3) := by decide +kernel
theorem dX11_next_117 : decode cX11_next 117 = .ok (.invokestatic 129, 3) := by decide +kernel
theorem dX11_next_120 : decode cX11_next 120 = .ok (.ifCond .eq 62, 3) := by decide +kernel
theorem dX11_next_123 : decode cX11_next 123 = .ok (.aload_n 0, 1) := by decide +kernel
theorem dX11_next_124 : decode cX11_next 124 = .ok (.aload_n 0, 1) := by decide +kernel
theorem dX11_next_125 : decode cX11_next 125 = .ok (.getfield 117, 3) := by decide +kernel
theorem dX11_next_128 : decode cX11_next 128 = .ok (.aload_n 0, 1) := by decide +kernel
theorem dX11_next_129 : decode cX11_next 129 = .ok (.getfield 120, 3) := by decide +kernel
theorem dX11_next_132 : decode cX11_next 132 = .ok (.isub, 1) := by decide +kernel
theorem dX11_next_133 : decode cX11_next 133 = .ok (.bipush 8, 2) := by decide +kernel
theorem dX11_next_135 : decode cX11_next 135 = .ok (.if_icmp .ge 28, 3) := by decide +kernel
theorem dX11_next_138 : decode cX11_next 138 = .ok (.aload_n 0, 1) := by decide +kernel
theorem dX11_next_139 : decode cX11_next 139 = .ok (.getfield 132, 3) := by decide +kernel
theorem dX11_next_142 : decode cX11_next 142 = .ok (.ldc2_w 135, 3) := by decide +kernel
theorem dX11_next_145 : decode cX11_next 145 = .ok (.lmul, 1) := by decide +kernel
theorem dX11_next_146 : decode cX11_next 146 = .ok (.aload_n 0, 1) := by decide +kernel
theorem dX11_next_147 : decode cX11_next 147 = .ok (.aload_n 0, 1) := by decide +kernel
theorem dX11_next_148 : decode cX11_next 148 = .ok (.getfield 117, 3) := by decide +kernel
theorem dX11_next_151 : decode cX11_next 151 = .ok (.invokevirtual 123, 3) := by decide +kernel
theorem dX11_next_154 : decode cX11_next 154 = .ok (.i2l, 1) := by decide +kernel
theorem dX11_next_155 : decode cX11_next 155 = .ok (.ladd, 1) := by decide +kernel
theorem dX11_next_156 : decode cX11_next 156 = .ok (.ldc2_w 137, 3) := by decide +kernel
theorem dX11_next_159 : decode cX11_next 159 = .ok (.lsub, 1) := by decide +kernel
theorem dX11_next_160 : decode cX11_next 160 = .ok (.goto 6, 3) := by decide +kernel
theorem dX11_next_163 : decode cX11_next 163 = .ok (.ldc2_w 102, 3) := by decide +kernel
theorem dX11_next_166 : decode cX11_next 166 = .ok (.putfield 132, 3) := by decide +kernel
theorem dX11_next_169 : decode cX11_next 169 = .ok (.aload_n 0, 1) := by decide +kernel
theorem dX11_next_170 : decode cX11_next 170 = .ok (.dup, 1) := by decide +kernel
theorem dX11_next_171 : decode cX11_next 171 = .ok (.getfield 117, 3) := by decide +kernel
theorem dX11_next_174 : decode cX11_next 174 = .ok (.iconst 1, 1) := by decide +kernel
theorem dX11_next_175 : decode cX11_next 175 = .ok (.iadd, 1) := by decide +kernel
theorem dX11_next_176 : decode cX11_next 176 = .ok (.putfield 117, 3) := by decide +kernel
theorem dX11_next_179 : decode cX11_next 179 = .ok (.goto (-70), 3) := by decide +kernel
theorem dX11_next_182 : decode cX11_next 182 = .ok (.aload_n 0, 1) := by decide +kernel
theorem dX11_next_183 : decode cX11_next 183 = .ok (.aload_n 0, 1) := by decide +kernel
theorem dX11_next_184 : decode cX11_next 184 = .ok (.getfield 117, 3) := by decide +kernel
theorem dX11_next_187 : decode cX11_next 187 = .ok (.aload_n 0, 1) := by decide +kernel
theorem dX11_next_188 : decode cX11_next 188 = .ok (.getfield 120, 3) := by decide +kernel
theorem dX11_next_191 : decode cX11_next 191 = .ok (.isub, 1) := by decide +kernel
theorem dX11_next_192 : decode cX11_next 192 = .ok (.putfield 139, 3) := by decide +kernel
theorem dX11_next_195 : decode cX11_next 195 = .ok (.goto 135, 3) := by decide +kernel
theorem dX11_next_198 : decode cX11_next 198 = .ok (.iload_n 1, 1) := by decide +kernel
theorem dX11_next_199 : decode cX11_next 199 = .ok (.invokestatic 142, 3) := by decide +kernel
theorem dX11_next_202 : decode cX11_next 202 = .ok (.ifCond .eq 96, 3) := by decide +kernel
theorem dX11_next_205 : decode cX11_next 205 = .ok (.aload_n 0, 1) := by decide +kernel
theorem dX11_next_206 : decode cX11_next 206 = .ok (.iconst 0, 1) := by decide +kernel
theorem dX11_next_207 : decode cX11_next 207 = .ok (.putfield 145, 3) := by decide +kernel
theorem dX11_next_210 : decode cX11_next 210 = .ok (.aload_n 0, 1) := by decide +kernel
theorem dX11_next_211 : decode cX11_next 211 = .ok (.aload_n 0, 1) := by decide +kernel
theorem dX11_next_212 : decode cX11_next 212 = .ok (.getfield 117, 3) := by decide +kernel
theorem dX11_next_215 : decode cX11_next 215 = .ok (.invokevirtual 123, 3) := by decide +kernel
theorem dX11_next_218 : decode cX11_next 218 = .ok (.invokestatic 142, 3) := by decide +kernel
theorem dX11_next_221 : decode cX11_next 221 = .ok (.ifCond .eq 52, 3) := by decide +kernel
theorem dX11_next_224 : decode cX11_next 224 = .ok (.aload_n 0, 1) := by decide +kernel
theorem dX11_next_225 : decode cX11_next 225 = .ok (.getfield 117, 3) := by decide +kernel
theorem dX11_next_228 : decode cX11_next 228 = .ok (.aload_n 0, 1) := by decide +kernel
theorem dX11_next_229 : decode cX11_next 229 = .ok (.getfield 120, 3) := by decide +kernel
theorem dX11_next_232 : decode cX11_next 232 = .ok (.isub, 1) := by decide +kernel
theorem dX11_next_233 : decode cX11_next 233 = .ok (.iconst 4, 1) := by decide +kernel
theorem dX11_next_234 : decode cX11_next 234 = .ok (.if_icmp .ge 26, 3) := by decide +kernel
theorem dX11_next_237 : decode cX11_next 237 = .ok (.aload_n 0, 1) := by decide +kernel
theorem dX11_next_238 : decode cX11_next 238 = .ok (.bipush 10, 2) := by decide +kernel
theorem dX11_next_240 : decode cX11_next 240 = .ok (.aload_n 0, 1) := by decide +kernel
theorem dX11_next_241 : decode cX11_next 241 = .ok (.getfield 145, 3) := by decide +kernel
theorem dX11_next_244 : decode cX11_next 244 = .ok (.imul, 1) := by decide +kernel
theorem dX11_next_245 : decode cX11_next 245 = .ok (.aload_n 0, 1) := by decide +kernel
theorem dX11_next_246 : decode cX11_next 246 = .ok (.aload_n 0, 1) := by decide +kernel
theorem dX11_next_247 : decode cX11_next 247 = .ok (.getfield 117, 3) := by decide +kernel
theorem dX11_next_250 : decode cX11_next 250 = .ok (.invokevirtual 123, 3) := by decide +kernel
theorem dX11_next_253 : decode cX11_next 253 = .ok (.iadd, 1) := by decide +kernel
theorem dX11_next_254 : decode cX11_next 254 = .ok (.bipush 48, 2) := by decide +kernel
theorem dX11_next_256 : decode cX11_next 256 = .ok (.isub, 1) := by decide +kernel
theorem dX11_next_257 : decode cX11_next 257 = .ok (.putfield 145, 3) := by decide +kernel
theorem dX11_next_260 : decode cX11_next 260 = .ok (.aload_n 0, 1) := by decide +kernel
theorem dX11_next_261 : decode cX11_next 261 = .ok (.dup, 1) := by decide +kernel
theorem dX11_next_262 : decode cX11_next 262 = .ok (.getfield 117, 3) := by decide +kernel
theorem dX11_next_265 : decode cX11_next 265 = .ok (.iconst 1, 1) := by decide +kernel
theorem dX11_next_266 : decode cX11_next 266 = .ok (.iadd, 1) := by decide +kernel
theorem dX11_next_267 : decode cX11_next 267 = .ok (.putfield 117, 3) := by decide +kernel
theorem dX11_next_270 : decode cX11_next 270 = .ok (.goto (-60), 3) := by decide +kernel
theorem dX11_next_273 : decode cX11_next 273 = .ok (.aload_n 0, 1) := by decide +kernel
theorem dX11_next_274 : decode cX11_next 274 = .ok (.aload_n 0, 1) := by decide +kernel
theorem dX11_next_275 : decode cX11_next 275 = .ok (.getfield 117, 3) := by decide +kernel
theorem dX11_next_278 : decode cX11_next 278 = .ok (.aload_n 0, 1) := by decide +kernel
theorem dX11_next_279 : decode cX11_next 279 = .ok (.getfield 120, 3) := by decide +kernel
theorem dX11_next_282 : decode cX11_next 282 = .ok (.isub, 1) := by decide +kernel
theorem dX11_next_283 : decode cX11_next 283 = .ok (.iconst 4, 1) := by decide +kernel
theorem dX11_next_284 : decode cX11_next 284 = .ok (.if_icmp .le 7, 3) := by decide +kernel
theorem dX11_next_287 : decode cX11_next 287 = .ok (.iconst 4, 1) := by decide +kernel
theorem dX11_next_288 : decode cX11_next 288 = .ok (.goto 4, 3) := by decide +kernel
theorem dX11_next_291 : decode cX11_next 291 = .ok (.iconst 2, 1) := by decide +kernel
theorem dX11_next_292 : decode cX11_next 292 = .ok (.putfield 126, 3) := by decide +kernel
theorem dX11_next_295 : decode cX11_next 295 = .ok (.goto 35, 3) := by decide +kernel
theorem dX11_next_298 : decode cX11_next 298 = .ok (.aload_n 0, 1) := by decide +kernel
theorem dX11_next_299 : decode cX11_next 299 = .ok (.aload_n 0, 1) := by decide +kernel
theorem dX11_next_300 : decode cX11_next 300 = .ok (.getfield 120, 3) := by decide +kernel
theorem dX11_next_303 : decode cX11_next 303 = .ok (.iconst 1, 1) := by decide +kernel
theorem dX11_next_304 : decode cX11_next 304 = .ok (.iadd, 1) := by decide +kernel
theorem dX11_next_305 : decode cX11_next 305 = .ok (.putfield 117, 3) := by decide +kernel
theorem dX11_next_308 : decode cX11_next 308 = .ok (.aload_n 0, 1) := by decide +kernel
theorem dX11_next_309 : decode cX11_next 309 = .ok (.iload_n 1, 1) := by decide +kernel
theorem dX11_next_310 : decode cX11_next 310 = .ok (.putfield 145, 3) := by decide +kernel
theorem dX11_next_313 : decode cX11_next 313 = .ok (.aload_n 0, 1) := by decide +kernel
theorem dX11_next_314 : decode cX11_next 314 = .ok (.aload_n 0, 1) := by decide +kernel
theorem dX11_next_315 : decode cX11_next 315 = .ok (.iload_n 1, 1) := by decide +kernel
theorem dX11_next_316 : decode cX11_next 316 = .ok (.invokevirtual 148, 3) := by decide +kernel
theorem dX11_next_319 : decode cX11_next 319 = .ok (.ifCond .eq 7, 3) := by decide +kernel
theorem dX11_next_322 : decode cX11_next 322 = .ok (.iconst 3, 1) := by decide +kernel
theorem dX11_next_323 : decode cX11_next 323 = .ok (.goto 4, 3) := by decide +kernel
theorem dX11_next_326 : decode cX11_next 326 = .ok (.iconst 4, 1) := by decide +kernel
theorem dX11_next_327 : decode cX11_next 327 = .ok (.putfield 126, 3) := by decide +kernel
theorem dX11_next_330 : decode cX11_next 330 = .ok (.return_, 1) := by decide +kernel
theorem dX11_isSign_0 : decode cX11_isSign 0 = .ok (.aload_n 0, 1) := by decide +kernel
theorem dX11_isSign_1 : decode cX11_isSign 1 = .ok (.getfield 126, 3) := by decide +kernel
theorem dX11_isSign_4 : decode cX11_isSign 4 = .ok (.iconst 3, 1) := by decide +kernel
theorem dX11_isSign_5 : decode cX11_isSign 5 = .ok (.if_icmp .ne 15, 3) := by decide +kernel
theorem dX11_isSign_8 : decode cX11_isSign 8 = .ok (.aload_n 0, 1) := by decide +kernel
theorem dX11_isSign_9 : decode cX11_isSign 9 = .ok (.getfield 145, 3) := by decide +kernel
theorem dX11_isSign_12 : decode cX11_isSign 12 = .ok (.iload_n 1, 1) := by decide +kernel
theorem dX11_isSign_13 : decode cX11_isSign 13 = .ok (.if_icmp .ne 7, 3) := by decide +kernel
theorem dX11_isSign_16 : decode cX11_isSign 16 = .ok (.iconst 1, 1) := by decide +kernel
theorem dX11_isSign_17 : decode cX11_isSign 17 = .ok (.goto 4, 3) := by decide +kernel
theorem dX11_isSign_20 : decode cX11_isSign 20 = .ok (.iconst 0, 1) := by decide +kernel
theorem dX11_isSign_21 : decode cX11_isSign 21 = .ok (.ireturn, 1) := by decide +kernel
theorem dX11_spelled_0 : decode cX11_spelled 0 = .ok (.iload_n 0, 1) := by decide +kernel
theorem dX11_spelled_1 : decode cX11_spelled 1 = .ok (.i2l, 1) := by decide +kernel
theorem dX11_spelled_2 : decode cX11_spelled 2 = .ok (.ldc2_w 137, 3) := by decide +kernel
theorem dX11_spelled_5 : decode cX11_spelled 5 = .ok (.lsub, 1) := by decide +kernel
theorem dX11_spelled_6 : decode cX11_spelled 6 = .ok (.ldc2_w 135, 3) := by decide +kernel
theorem dX11_spelled_9 : decode cX11_spelled 9 = .ok (.lmul, 1) := by decide +kernel
theorem dX11_spelled_10 : decode cX11_spelled 10 = .ok (.iload_n 1, 1) := by decide +kernel
theorem dX11_spelled_11 : decode cX11_spelled 11 = .ok (.i2l, 1) := by decide +kernel
theorem dX11_spelled_12 : decode cX11_spelled 12 = .ok (.ladd, 1) := by decide +kernel
theorem dX11_spelled_13 : decode cX11_spelled 13 = .ok (.ldc2_w 137, 3) := by decide +kernel
theorem dX11_spelled_16 : decode cX11_spelled 16 = .ok (.lsub, 1) := by decide +kernel
theorem dX11_spelled_17 : decode cX11_spelled 17 = .ok (.lstore 6, 2) := by decide +kernel
theorem dX11_spelled_19 : decode cX11_spelled 19 = .ok (.iload_n 2, 1) := by decide +kernel
theorem dX11_spelled_20 : decode cX11_spelled 20 = .ok (.ifCond .le 19, 3) := by decide +kernel
theorem dX11_spelled_23 : decode cX11_spelled 23 = .ok (.lload 6, 2) := by decide +kernel
theorem dX11_spelled_25 : decode cX11_spelled 25 = .ok (.ldc2_w 135, 3) := by decide +kernel
theorem dX11_spelled_28 : decode cX11_spelled 28 = .ok (.lmul, 1) := by decide +kernel
theorem dX11_spelled_29 : decode cX11_spelled 29 = .ok (.iload_n 2, 1) := by decide +kernel
theorem dX11_spelled_30 : decode cX11_spelled 30 = .ok (.i2l, 1) := by decide +kernel
theorem dX11_spelled_31 : decode cX11_spelled 31 = .ok (.ladd, 1) := by decide +kernel
theorem dX11_spelled_32 : decode cX11_spelled 32 = .ok (.ldc2_w 137, 3) := by decide +kernel
theorem dX11_spelled_35 : decode cX11_spelled 35 = .ok (.lsub, 1) := by decide +kernel
theorem dX11_spelled_36 : decode cX11_spelled 36 = .ok (.goto 5, 3) := by decide +kernel
theorem dX11_spelled_39 : decode cX11_spelled 39 = .ok (.lload 6, 2) := by decide +kernel
theorem dX11_spelled_41 : decode cX11_spelled 41 = .ok (.lstore 6, 2) := by decide +kernel
theorem dX11_spelled_43 : decode cX11_spelled 43 = .ok (.iload_n 3, 1) := by decide +kernel
theorem dX11_spelled_44 : decode cX11_spelled 44 = .ok (.ifCond .le 19, 3) := by decide +kernel
theorem dX11_spelled_47 : decode cX11_spelled 47 = .ok (.lload 6, 2) := by decide +kernel
theorem dX11_spelled_49 : decode cX11_spelled 49 = .ok (.ldc2_w 135, 3) := by decide +kernel
theorem dX11_spelled_52 : decode cX11_spelled 52 = .ok (.lmul, 1) := by decide +kernel
theorem dX11_spelled_53 : decode cX11_spelled 53 = .ok (.iload_n 3, 1) := by decide +kernel
theorem dX11_spelled_54 : decode cX11_spelled 54 = .ok (.i2l, 1) := by decide +kernel
theorem dX11_spelled_55 : decode cX11_spelled 55 = .ok (.ladd, 1) := by decide +kernel
theorem dX11_spelled_56 : decode cX11_spelled 56 = .ok (.ldc2_w 137, 3) := by decide +kernel
theorem dX11_spelled_59 : decode cX11_spelled 59 = .ok (.lsub, 1) := by decide +kernel
theorem dX11_spelled_60 : decode cX11_spelled 60 = .ok (.goto 5, 3) := by decide +kernel
theorem dX11_spelled_63 : decode cX11_spelled 63 = .ok (.lload 6, 2) := by decide +kernel
theorem dX11_spelled_65 : decode cX11_spelled 65 = .ok (.lstore 6, 2) := by decide +kernel
theorem dX11_spelled_67 : decode cX11_spelled 67 = .ok (.iload 4, 2) := by decide +kernel
theorem dX11_spelled_69 : decode cX11_spelled 69 = .ok (.ifCond .le 20, 3) := by decide +kernel
theorem dX11_spelled_72 : decode cX11_spelled 72 = .ok (.lload 6, 2) := by decide +kernel
theorem dX11_spelled_74 : decode cX11_spelled 74 = .ok (.ldc2_w 135, 3) := by decide +kernel
theorem dX11_spelled_77 : decode cX11_spelled 77 = .ok (.lmul, 1) := by decide +kernel
theorem dX11_spelled_78 : decode cX11_spelled 78 = .ok (.iload 4, 2) := by decide +kernel
theorem dX11_spelled_80 : decode cX11_spelled 80 = .ok (.i2l, 1) := by decide +kernel
theorem dX11_spelled_81 : decode cX11_spelled 81 = .ok (.ladd, 1) := by decide +kernel
theorem dX11_spelled_82 : decode cX11_spelled 82 = .ok (.ldc2_w 137, 3) := by decide +kernel
theorem dX11_spelled_85 : decode cX11_spelled 85 = .ok (.lsub, 1) := by decide +kernel
theorem dX11_spelled_86 : decode cX11_spelled 86 = .ok (.goto 5, 3) := by decide +kernel
theorem dX11_spelled_89 : decode cX11_spelled 89 = .ok (.lload 6, 2) := by decide +kernel
theorem dX11_spelled_91 : decode cX11_spelled 91 = .ok (.lstore 6, 2) := by decide +kernel
theorem dX11_spelled_93 : decode cX11_spelled 93 = .ok (.iload 5, 2) := by decide +kernel
theorem dX11_spelled_95 : decode cX11_spelled 95 = .ok (.ifCond .le 20, 3) := by decide +kernel
theorem dX11_spelled_98 : decode cX11_spelled 98 = .ok (.lload 6, 2) := by decide +kernel
theorem dX11_spelled_100 : decode cX11_spelled 100 = .ok (.ldc2_w 135, 3) := by decide +kernel
theorem dX11_spelled_103 : decode cX11_spelled 103 = .ok (.lmul, 1) := by decide +kernel
theorem dX11_spelled_104 : decode cX11_spelled 104 = .ok (.iload 5, 2) := by decide +kernel
theorem dX11_spelled_106 : decode cX11_spelled 106 = .ok (.i2l, 1) := by decide +kernel
theorem dX11_spelled_107 : decode cX11_spelled 107 = .ok (.ladd, 1) := by decide +kernel
theorem dX11_spelled_108 : decode cX11_spelled 108 = .ok (.ldc2_w 137, 3) := by decide +kernel
theorem dX11_spelled_111 : decode cX11_spelled 111 = .ok (.lsub, 1) := by decide +kernel
theorem dX11_spelled_112 : decode cX11_spelled 112 = .ok (.goto 5, 3) := by decide +kernel
theorem dX11_spelled_115 : decode cX11_spelled 115 = .ok (.lload 6, 2) := by decide +kernel
theorem dX11_spelled_117 : decode cX11_spelled 117 = .ok (.lreturn, 1) := by decide +kernel
theorem dX11_isWord_0 : decode cX11_isWord 0 = .ok (.aload_n 0, 1) := by decide +kernel
theorem dX11_isWord_1 : decode cX11_isWord 1 = .ok (.getfield 126, 3) := by decide +kernel
theorem dX11_isWord_4 : decode cX11_isWord 4 = .ok (.iconst 1, 1) := by decide +kernel
theorem dX11_isWord_5 : decode cX11_isWord 5 = .ok (.if_icmp .ne 16, 3) := by decide +kernel
theorem dX11_isWord_8 : decode cX11_isWord 8 = .ok (.aload_n 0, 1) := by decide +kernel
theorem dX11_isWord_9 : decode cX11_isWord 9 = .ok (.getfield 132, 3) := by decide +kernel
theorem dX11_isWord_12 : decode cX11_isWord 12 = .ok (.lload_n 1, 1) := by decide +kernel
theorem dX11_isWord_13 : decode cX11_isWord 13 = .ok (.lcmp, 1) := by decide +kernel
theorem dX11_isWord_14 : decode cX11_isWord 14 = .ok (.ifCond .ne 7, 3) := by decide +kernel
theorem dX11_isWord_17 : decode cX11_isWord 17 = .ok (.iconst 1, 1) := by decide +kernel
theorem dX11_isWord_18 : decode cX11_isWord 18 = .ok (.goto 4, 3) := by decide +kernel
theorem dX11_isWord_21 : decode cX11_isWord 21 = .ok (.iconst 0, 1) := by decide +kernel
theorem dX11_isWord_22 : decode cX11_isWord 22 = .ok (.ireturn, 1) := by decide +kernel
set_option maxRecDepth 20000 in
theorem ggX11_isJuror_X11_spelled : GoodIn wsX11_isJuror wsX11_spelled := goodIn_r _ [4, 5, 6] (by decide +kernel) (by decide +kernel)
set_option maxRecDepth 20000 in
theorem gX11_isJuror_X11_spelled : GoodIn wsX11_isJuror (va_wsS RX11 151 yX11_spelled wsX11_spelled) := goodIn_app (goodIn_of _ (by decide +kernel)) ggX11_isJuror_X11_spelled
set_option maxRecDepth 20000 in
theorem ggX11_isJuror_X11_isWord : GoodIn wsX11_isJuror wsX11_isWord := goodIn_r _ [10, 11, 12, 13, 14, 15, 16, 17, 18, 19, 20, 21, 22, 23, 24, 25, 26, 27, 28, 29, 30, 31, 32, 33, 34, 35, 36, 37, 38, 39, 40, 41, 42, 43, 44, 45, 46, 47, 48, 49, 50, 51, 52, 53, 54, 55, 56, 57, 58] (by decide +kernel) (by decide +kernel)
set_option maxRecDepth 20000 in
theorem gX11_isJuror_X11_isWord : GoodIn wsX11_isJuror (wsV RX11 155 RX11 yX11_isWord wsX11_isWord) := goodIn_app (goodIn_of _ (by decide +kernel)) ggX11_isJuror_X11_isWord
theorem dX11_isJuror_0 : decode cX11_isJuror 0 = .ok (.aload_n 0, 1) := by decide +kernel
theorem dX11_isJuror_1 : decode cX11_isJuror 1 = .ok (.bipush 106, 2) := by decide +kernel
theorem dX11_isJuror_3 : decode cX11_isJuror 3 = .ok (.bipush 117, 2) := by decide +kernel
theorem dX11_isJuror_5 : decode cX11_isJuror 5 = .ok (.bipush 114, 2) := by decide +kernel
theorem dX11_isJuror_7 : decode cX11_isJuror 7 = .ok (.bipush 111, 2) := by decide +kernel
theorem dX11_isJuror_9 : decode cX11_isJuror 9 = .ok (.bipush 114, 2) := by decide +kernel
theorem dX11_isJuror_11 : decode cX11_isJuror 11 = .ok (.iconst 0, 1) := by decide +kernel
theorem dX11_isJuror_12 : decode cX11_isJuror 12 = .ok (.invokestatic 151, 3) := by decide +kernel
theorem dX11_isJuror_15 : decode cX11_isJuror 15 = .ok (.invokevirtual 155, 3) := by decide +kernel
theorem dX11_isJuror_18 : decode cX11_isJuror 18 = .ok (.ireturn, 1) := by decide +kernel
set_option maxRecDepth 20000 in
theorem ggX11_isLeans_X11_spelled : GoodIn wsX11_isLeans wsX11_spelled := goodIn_r _ [4, 5, 6] (by decide +kernel) (by decide +kernel)
set_option maxRecDepth 20000 in
theorem gX11_isLeans_X11_spelled : GoodIn wsX11_isLeans (va_wsS RX11 151 yX11_spelled wsX11_spelled) := goodIn_app (goodIn_of _ (by decide +kernel)) ggX11_isLeans_X11_spelled
set_option maxRecDepth 20000 in
theorem ggX11_isLeans_X11_isWord : GoodIn wsX11_isLeans wsX11_isWord := goodIn_r _ [10, 11, 12, 13, 14, 15, 16, 17, 18, 19, 20, 21, 22, 23, 24, 25, 26, 27, 28, 29, 30, 31, 32, 33, 34, 35, 36, 37, 38, 39, 40, 41, 42, 43, 44, 45, 46, 47, 48, 49, 50, 51, 52, 53, 54, 55, 56, 57, 58] (by decide +kernel) (by decide +kernel)
set_option maxRecDepth 20000 in
theorem gX11_isLeans_X11_isWord : GoodIn wsX11_isLeans (wsV RX11 155 RX11 yX11_isWord wsX11_isWord) := goodIn_app (goodIn_of _ (by decide +kernel)) ggX11_isLeans_X11_isWord
theorem dX11_isLeans_0 : decode cX11_isLeans 0 = .ok (.aload_n 0, 1) := by decide +kernel
theorem dX11_isLeans_1 : decode cX11_isLeans 1 = .ok (.bipush 108, 2) := by decide +kernel
theorem dX11_isLeans_3 : decode cX11_isLeans 3 = .ok (.bipush 101, 2) := by decide +kernel
theorem dX11_isLeans_5 : decode cX11_isLeans 5 = .ok (.bipush 97, 2) := by decide +kernel
theorem dX11_isLeans_7 : decode cX11_isLeans 7 = .ok (.bipush 110, 2) := by decide +kernel
theorem dX11_isLeans_9 : decode cX11_isLeans 9 = .ok (.bipush 115, 2) := by decide +kernel
theorem dX11_isLeans_11 : decode cX11_isLeans 11 = .ok (.iconst 0, 1) := by decide +kernel
theorem dX11_isLeans_12 : decode cX11_isLeans 12 = .ok (.invokestatic 151, 3) := by decide +kernel
theorem dX11_isLeans_15 : decode cX11_isLeans 15 = .ok (.invokevirtual 155, 3) := by decide +kernel
theorem dX11_isLeans_18 : decode cX11_isLeans 18 = .ok (.ireturn, 1) := by decide +kernel
set_option maxRecDepth 20000 in
theorem ggX11_isLess_X11_spelled : GoodIn wsX11_isLess wsX11_spelled := goodIn_r _ [4, 5, 6] (by decide +kernel) (by decide +kernel)
set_option maxRecDepth 20000 in
theorem gX11_isLess_X11_spelled : GoodIn wsX11_isLess (va_wsS RX11 151 yX11_spelled wsX11_spelled) := goodIn_app (goodIn_of _ (by decide +kernel)) ggX11_isLess_X11_spelled
set_option maxRecDepth 20000 in
theorem ggX11_isLess_X11_isWord : GoodIn wsX11_isLess wsX11_isWord := goodIn_r _ [10, 11, 12, 13, 14, 15, 16, 17, 18, 19, 20, 21, 22, 23, 24, 25, 26, 27, 28, 29, 30, 31, 32, 33, 34, 35, 36, 37, 38, 39, 40, 41, 42, 43, 44, 45, 46, 47, 48, 49, 50, 51, 52, 53, 54, 55, 56, 57, 58] (by decide +kernel) (by decide +kernel)
set_option maxRecDepth 20000 in
theorem gX11_isLess_X11_isWord : GoodIn wsX11_isLess (wsV RX11 155 RX11 yX11_isWord wsX11_isWord) := goodIn_app (goodIn_of _ (by decide +kernel)) ggX11_isLess_X11_isWord
theorem dX11_isLess_0 : decode cX11_isLess 0 = .ok (.aload_n 0, 1) := by decide +kernel
theorem dX11_isLess_1 : decode cX11_isLess 1 = .ok (.bipush 108, 2) := by decide +kernel
theorem dX11_isLess_3 : decode cX11_isLess 3 = .ok (.bipush 101, 2) := by decide +kernel
theorem dX11_isLess_5 : decode cX11_isLess 5 = .ok (.bipush 115, 2) := by decide +kernel
theorem dX11_isLess_7 : decode cX11_isLess 7 = .ok (.bipush 115, 2) := by decide +kernel
theorem dX11_isLess_9 : decode cX11_isLess 9 = .ok (.iconst 0, 1) := by decide +kernel
theorem dX11_isLess_10 : decode cX11_isLess 10 = .ok (.iconst 0, 1) := by decide +kernel
theorem dX11_isLess_11 : decode cX11_isLess 11 = .ok (.invokestatic 151, 3) := by decide +kernel
theorem dX11_isLess_14 : decode cX11_isLess 14 = .ok (.invokevirtual 155, 3) := by decide +kernel
theorem dX11_isLess_17 : decode cX11_isLess 17 = .ok (.ireturn, 1) := by decide +kernel
set_option maxRecDepth 20000 in
theorem ggX11_isStubborn_X11_spelled : GoodIn wsX11_isStubborn wsX11_spelled := goodIn_r _ [7, 8, 1] (by decide +kernel) (by decide +kernel)
set_option maxRecDepth 20000 in
theorem gX11_isStubborn_X11_spelled : GoodIn wsX11_isStubborn (va_wsS RX11 151 yX11_spelled wsX11_spelled) := goodIn_app (goodIn_of _ (by decide +kernel)) ggX11_isStubborn_X11_spelled
set_option maxRecDepth 20000 in
theorem ggX11_isStubborn_X11_isWord : GoodIn wsX11_isStubborn wsX11_isWord := goodIn_r _ [12, 13, 14, 15, 16, 17, 18, 19, 20, 21, 22, 23, 24, 25, 26, 27, 28, 29, 30, 31, 32, 33, 34, 35, 36, 37, 38, 39, 40, 41, 42, 43, 44, 45, 46, 47, 48, 49, 50, 51, 52, 53, 54, 55, 56, 57, 58, 59, 60] (by decide +kernel) (by decide +kernel)
set_option maxRecDepth 20000 in
theorem gX11_isStubborn_X11_isWord : GoodIn wsX11_isStubborn (wsV RX11 155 RX11 yX11_isWord wsX11_isWord) := goodIn_app (goodIn_of _ (by decide +kernel)) ggX11_isStubborn_X11_isWord
theorem dX11_isStubborn_0 : decode cX11_isStubborn 0 = .ok (.aload_n 0, 1) := by decide +kernel
theorem dX11_isStubborn_1 : decode cX11_isStubborn 1 = .ok (.bipush 115, 2) := by decide +kernel
theorem dX11_isStubborn_3 : decode cX11_isStubborn 3 = .ok (.bipush 116, 2) := by decide +kernel
theorem dX11_isStubborn_5 : decode cX11_isStubborn 5 = .ok (.bipush 117, 2) := by decide +kernel
theorem dX11_isStubborn_7 : decode cX11_isStubborn 7 = .ok (.bipush 98, 2) := by decide +kernel
theorem dX11_isStubborn_9 : decode cX11_isStubborn 9 = .ok (.bipush 98, 2) := by decide +kernel
theorem dX11_isStubborn_11 : decode cX11_isStubborn 11 = .ok (.bipush 111, 2) := by decide +kernel
theorem dX11_isStubborn_13 : decode cX11_isStubborn 13 = .ok (.invokestatic 151, 3) := by decide +kernel
theorem dX11_isStubborn_16 : decode cX11_isStubborn 16 = .ok (.ldc2_w 135, 3) := by decide +kernel
theorem dX11_isStubborn_19 : decode cX11_isStubborn 19 = .ok (.lmul, 1) := by decide +kernel
theorem dX11_isStubborn_20 : decode cX11_isStubborn 20 = .ok (.ldc2_w 159, 3) := by decide +kernel
theorem dX11_isStubborn_23 : decode cX11_isStubborn 23 = .ok (.ladd, 1) := by decide +kernel
theorem dX11_isStubborn_24 : decode cX11_isStubborn 24 = .ok (.ldc2_w 135, 3) := by decide +kernel
theorem dX11_isStubborn_27 : decode cX11_isStubborn 27 = .ok (.lmul, 1) := by decide +kernel
theorem dX11_isStubborn_28 : decode cX11_isStubborn 28 = .ok (.ldc2_w 161, 3) := by decide +kernel
theorem dX11_isStubborn_31 : decode cX11_isStubborn 31 = .ok (.ladd, 1) := by decide +kernel
theorem dX11_isStubborn_32 : decode cX11_isStubborn 32 = .ok (.invokevirtual 155, 3) := by decide +kernel
theorem dX11_isStubborn_35 : decode cX11_isStubborn 35 = .ok (.ireturn, 1) := by decide +kernel
set_option maxRecDepth 20000 in
theorem ggX11_isPrice_X11_spelled : GoodIn wsX11_isPrice wsX11_spelled := goodIn_r _ [4, 5, 6] (by decide +kernel) (by decide +kernel)
set_option maxRecDepth 20000 in
theorem gX11_isPrice_X11_spelled : GoodIn wsX11_isPrice (va_wsS RX11 151 yX11_spelled wsX11_spelled) := goodIn_app (goodIn_of _ (by decide +kernel)) ggX11_isPrice_X11_spelled
set_option maxRecDepth 20000 in
theorem ggX11_isPrice_X11_isWord : GoodIn wsX11_isPrice wsX11_isWord := goodIn_r _ [10, 11, 12, 13, 14, 15, 16, 17, 18, 19, 20, 21, 22, 23, 24, 25, 26, 27, 28, 29, 30, 31, 32, 33, 34, 35, 36, 37, 38, 39, 40, 41, 42, 43, 44, 45, 46, 47, 48, 49, 50, 51, 52, 53, 54, 55, 56, 57, 58] (by decide +kernel) (by decide +kernel)
set_option maxRecDepth 20000 in
theorem gX11_isPrice_X11_isWord : GoodIn wsX11_isPrice (wsV RX11 155 RX11 yX11_isWord wsX11_isWord) := goodIn_app (goodIn_of _ (by decide +kernel)) ggX11_isPrice_X11_isWord
theorem dX11_isPrice_0 : decode cX11_isPrice 0 = .ok (.aload_n 0, 1) := by decide +kernel
theorem dX11_isPrice_1 : decode cX11_isPrice 1 = .ok (.bipush 112, 2) := by decide +kernel
theorem dX11_isPrice_3 : decode cX11_isPrice 3 = .ok (.bipush 114, 2) := by decide +kernel
theorem dX11_isPrice_5 : decode cX11_isPrice 5 = .ok (.bipush 105, 2) := by decide +kernel
theorem dX11_isPrice_7 : decode cX11_isPrice 7 = .ok (.bipush 99, 2) := by decide +kernel
theorem dX11_isPrice_9 : decode cX11_isPrice 9 = .ok (.bipush 101, 2) := by decide +kernel
theorem dX11_isPrice_11 : decode cX11_isPrice 11 = .ok (.iconst 0, 1) := by decide +kernel
theorem dX11_isPrice_12 : decode cX11_isPrice 12 = .ok (.invokestatic 151, 3) := by decide +kernel
theorem dX11_isPrice_15 : decode cX11_isPrice 15 = .ok (.invokevirtual 155, 3) := by decide +kernel
theorem dX11_isPrice_18 : decode cX11_isPrice 18 = .ok (.ireturn, 1) := by decide +kernel
set_option maxRecDepth 20000 in
theorem ggX11_isSways_X11_spelled : GoodIn wsX11_isSways wsX11_spelled := goodIn_r _ [4, 5, 6] (by decide +kernel) (by decide +kernel)
set_option maxRecDepth 20000 in
theorem gX11_isSways_X11_spelled : GoodIn wsX11_isSways (va_wsS RX11 151 yX11_spelled wsX11_spelled) := goodIn_app (goodIn_of _ (by decide +kernel)) ggX11_isSways_X11_spelled
set_option maxRecDepth 20000 in
theorem ggX11_isSways_X11_isWord : GoodIn wsX11_isSways wsX11_isWord := goodIn_r _ [10, 11, 12, 13, 14, 15, 16, 17, 18, 19, 20, 21, 22, 23, 24, 25, 26, 27, 28, 29, 30, 31, 32, 33, 34, 35, 36, 37, 38, 39, 40, 41, 42, 43, 44, 45, 46, 47, 48, 49, 50, 51, 52, 53, 54, 55, 56, 57, 58] (by decide +kernel) (by decide +kernel)
set_option maxRecDepth 20000 in
theorem gX11_isSways_X11_isWord : GoodIn wsX11_isSways (wsV RX11 155 RX11 yX11_isWord wsX11_isWord) := goodIn_app (goodIn_of _ (by decide +kernel)) ggX11_isSways_X11_isWord
theorem dX11_isSways_0 : decode cX11_isSways 0 = .ok (.aload_n 0, 1) := by decide +kernel
theorem dX11_isSways_1 : decode cX11_isSways 1 = .ok (.bipush 115, 2) := by decide +kernel
theorem dX11_isSways_3 : decode cX11_isSways 3 = .ok (.bipush 119, 2) := by decide +kernel
theorem dX11_isSways_5 : decode cX11_isSways 5 = .ok (.bipush 97, 2) := by decide +kernel
theorem dX11_isSways_7 : decode cX11_isSways 7 = .ok (.bipush 121, 2) := by decide +kernel
theorem dX11_isSways_9 : decode cX11_isSways 9 = .ok (.bipush 115, 2) := by decide +kernel
theorem dX11_isSways_11 : decode cX11_isSways 11 = .ok (.iconst 0, 1) := by decide +kernel
theorem dX11_isSways_12 : decode cX11_isSways 12 = .ok (.invokestatic 151, 3) := by decide +kernel
theorem dX11_isSways_15 : decode cX11_isSways 15 = .ok (.invokevirtual 155, 3) := by decide +kernel
theorem dX11_isSways_18 : decode cX11_isSways 18 = .ok (.ireturn, 1) := by decide +kernel
set_option maxRecDepth 20000 in
theorem ggX11_isProof_X11_spelled : GoodIn wsX11_isProof wsX11_spelled := goodIn_r _ [4, 5, 6] (by decide +kernel) (by decide +kernel)
set_option maxRecDepth 20000 in
theorem gX11_isProof_X11_spelled : GoodIn wsX11_isProof (va_wsS RX11 151 yX11_spelled wsX11_spelled) := goodIn_app (goodIn_of _ (by decide +kernel)) ggX11_isProof_X11_spelled
set_option maxRecDepth 20000 in
theorem ggX11_isProof_X11_isWord : GoodIn wsX11_isProof wsX11_isWord := goodIn_r _ [10, 11, 12, 13, 14, 15, 16, 17, 18, 19, 20, 21, 22, 23, 24, 25, 26, 27, 28, 29, 30, 31, 32, 33, 34, 35, 36, 37, 38, 39, 40, 41, 42, 43, 44, 45, 46, 47, 48, 49, 50, 51, 52, 53, 54, 55, 56, 57, 58] (by decide +kernel) (by decide +kernel)
set_option maxRecDepth 20000 in
theorem gX11_isProof_X11_isWord : GoodIn wsX11_isProof (wsV RX11 155 RX11 yX11_isWord wsX11_isWord) := goodIn_app (goodIn_of _ (by decide +kernel)) ggX11_isProof_X11_isWord
theorem dX11_isProof_0 : decode cX11_isProof 0 = .ok (.aload_n 0, 1) := by decide +kernel
theorem dX11_isProof_1 : decode cX11_isProof 1 = .ok (.bipush 112, 2) := by decide +kernel
theorem dX11_isProof_3 : decode cX11_isProof 3 = .ok (.bipush 114, 2) := by decide +kernel
theorem dX11_isProof_5 : decode cX11_isProof 5 = .ok (.bipush 111, 2) := by decide +kernel
theorem dX11_isProof_7 : decode cX11_isProof 7 = .ok (.bipush 111, 2) := by decide +kernel
theorem dX11_isProof_9 : decode cX11_isProof 9 = .ok (.bipush 102, 2) := by decide +kernel
theorem dX11_isProof_11 : decode cX11_isProof 11 = .ok (.iconst 0, 1) := by decide +kernel
theorem dX11_isProof_12 : decode cX11_isProof 12 = .ok (.invokestatic 151, 3) := by decide +kernel
theorem dX11_isProof_15 : decode cX11_isProof 15 = .ok (.invokevirtual 155, 3) := by decide +kernel
theorem dX11_isProof_18 : decode cX11_isProof 18 = .ok (.ireturn, 1) := by decide +kernel
set_option maxRecDepth 20000 in
theorem ggX11_isWeather_X11_spelled : GoodIn wsX11_isWeather wsX11_spelled := goodIn_r _ [6, 7, 1] (by decide +kernel) (by decide +kernel)
set_option maxRecDepth 20000 in
theorem gX11_isWeather_X11_spelled : GoodIn wsX11_isWeather (va_wsS RX11 151 yX11_spelled wsX11_spelled) := goodIn_app (goodIn_of _ (by decide +kernel)) ggX11_isWeather_X11_spelled
set_option maxRecDepth 20000 in
theorem ggX11_isWeather_X11_isWord : GoodIn wsX11_isWeather wsX11_isWord := goodIn_r _ [11, 12, 13, 14, 15, 16, 17, 18, 19, 20, 21, 22, 23, 24, 25, 26, 27, 28, 29, 30, 31, 32, 33, 34, 35, 36, 37, 38, 39, 40, 41, 42, 43, 44, 45, 46, 47, 48, 49, 50, 51, 52, 53, 54, 55, 56, 57, 58, 59] (by decide +kernel) (by decide +kernel)
set_option maxRecDepth 20000 in
theorem gX11_isWeather_X11_isWord : GoodIn wsX11_isWeather (wsV RX11 155 RX11 yX11_isWord wsX11_isWord) := goodIn_app (goodIn_of _ (by decide +kernel)) ggX11_isWeather_X11_isWord
theorem dX11_isWeather_0 : decode cX11_isWeather 0 = .ok (.aload_n 0, 1) := by decide +kernel
theorem dX11_isWeather_1 : decode cX11_isWeather 1 = .ok (.bipush 119, 2) := by decide +kernel
theorem dX11_isWeather_3 : decode cX11_isWeather 3 = .ok (.bipush 101, 2) := by decide +kernel
theorem dX11_isWeather_5 : decode cX11_isWeather 5 = .ok (.bipush 97, 2) := by decide +kernel
theorem dX11_isWeather_7 : decode cX11_isWeather 7 = .ok (.bipush 116, 2) := by decide +kernel
theorem dX11_isWeather_9 : decode cX11_isWeather 9 = .ok (.bipush 104, 2) := by decide +kernel
theorem dX11_isWeather_11 : decode cX11_isWeather 11 = .ok (.bipush 101, 2) := by decide +kernel
theorem dX11_isWeather_13 : decode cX11_isWeather 13 = .ok (.invokestatic 151, 3) := by decide +kernel
theorem dX11_isWeather_16 : decode cX11_isWeather 16 = .ok (.ldc2_w 135, 3) := by decide +kernel
theorem dX11_isWeather_19 : decode cX11_isWeather 19 = .ok (.lmul, 1) := by decide +kernel
theorem dX11_isWeather_20 : decode cX11_isWeather 20 = .ok (.ldc2_w 159, 3) := by decide +kernel
theorem dX11_isWeather_23 : decode cX11_isWeather 23 = .ok (.ladd, 1) := by decide +kernel
theorem dX11_isWeather_24 : decode cX11_isWeather 24 = .ok (.invokevirtual 155, 3) := by decide +kernel
theorem dX11_isWeather_27 : decode cX11_isWeather 27 = .ok (.ireturn, 1) := by decide +kernel
set_option maxRecDepth 20000 in
theorem ggX11_isFollows_X11_spelled : GoodIn wsX11_isFollows wsX11_spelled := goodIn_r _ [6, 7, 1] (by decide +kernel) (by decide +kernel)
set_option maxRecDepth 20000 in
theorem gX11_isFollows_X11_spelled : GoodIn wsX11_isFollows (va_wsS RX11 151 yX11_spelled wsX11_spelled) := goodIn_app (goodIn_of _ (by decide +kernel)) ggX11_isFollows_X11_spelled
set_option maxRecDepth 20000 in
theorem ggX11_isFollows_X11_isWord : GoodIn wsX11_isFollows wsX11_isWord := goodIn_r _ [11, 12, 13, 14, 15, 16, 17, 18, 19, 20, 21, 22, 23, 24, 25, 26, 27, 28, 29, 30, 31, 32, 33, 34, 35, 36, 37, 38, 39, 40, 41, 42, 43, 44, 45, 46, 47, 48, 49, 50, 51, 52, 53, 54, 55, 56, 57, 58, 59] (by decide +kernel) (by decide +kernel)
set_option maxRecDepth 20000 in
theorem gX11_isFollows_X11_isWord : GoodIn wsX11_isFollows (wsV RX11 155 RX11 yX11_isWord wsX11_isWord) := goodIn_app (goodIn_of _ (by decide +kernel)) ggX11_isFollows_X11_isWord
theorem dX11_isFollows_0 : decode cX11_isFollows 0 = .ok (.aload_n 0, 1) := by decide +kernel
theorem dX11_isFollows_1 : decode cX11_isFollows 1 = .ok (.bipush 102, 2) := by decide +kernel
theorem dX11_isFollows_3 : decode cX11_isFollows 3 = .ok (.bipush 111, 2) := by decide +kernel
theorem dX11_isFollows_5 : decode cX11_isFollows 5 = .ok (.bipush 108, 2) := by decide +kernel
theorem dX11_isFollows_7 : decode cX11_isFollows 7 = .ok (.bipush 108, 2) := by decide +kernel
theorem dX11_isFollows_9 : decode cX11_isFollows 9 = .ok (.bipush 111, 2) := by decide +kernel
theorem dX11_isFollows_11 : decode cX11_isFollows 11 = .ok (.bipush 119, 2) := by decide +kernel
theorem dX11_isFollows_13 : decode cX11_isFollows 13 = .ok (.invokestatic 151, 3) := by decide +kernel
theorem dX11_isFollows_16 : decode cX11_isFollows 16 = .ok (.ldc2_w 135, 3) := by decide +kernel
theorem dX11_isFollows_19 : decode cX11_isFollows 19 = .ok (.lmul, 1) := by decide +kernel
theorem dX11_isFollows_20 : decode cX11_isFollows 20 = .ok (.ldc2_w 163, 3) := by decide +kernel
theorem dX11_isFollows_23 : decode cX11_isFollows 23 = .ok (.ladd, 1) := by decide +kernel
theorem dX11_isFollows_24 : decode cX11_isFollows 24 = .ok (.invokevirtual 155, 3) := by decide +kernel
theorem dX11_isFollows_27 : decode cX11_isFollows 27 = .ok (.ireturn, 1) := by decide +kernel
set_option maxRecDepth 20000 in
theorem ggX11_isGuilty_X11_spelled : GoodIn wsX11_isGuilty wsX11_spelled := goodIn_r _ [4, 5, 6] (by decide +kernel) (by decide +kernel)
set_option maxRecDepth 20000 in
theorem gX11_isGuilty_X11_spelled : GoodIn wsX11_isGuilty (va_wsS RX11 151 yX11_spelled wsX11_spelled) := goodIn_app (goodIn_of _ (by decide +kernel)) ggX11_isGuilty_X11_spelled
set_option maxRecDepth 20000 in
theorem ggX11_isGuilty_X11_isWord : GoodIn wsX11_isGuilty wsX11_isWord := goodIn_r _ [10, 11, 12, 13, 14, 15, 16, 17, 18, 19, 20, 21, 22, 23, 24, 25, 26, 27, 28, 29, 30, 31, 32, 33, 34, 35, 36, 37, 38, 39, 40, 41, 42, 43, 44, 45, 46, 47, 48, 49, 50, 51, 52, 53, 54, 55, 56, 57, 58] (by decide +kernel) (by decide +kernel)
set_option maxRecDepth 20000 in
theorem gX11_isGuilty_X11_isWord : GoodIn wsX11_isGuilty (wsV RX11 155 RX11 yX11_isWord wsX11_isWord) := goodIn_app (goodIn_of _ (by decide +kernel)) ggX11_isGuilty_X11_isWord
theorem dX11_isGuilty_0 : decode cX11_isGuilty 0 = .ok (.aload_n 0, 1) := by decide +kernel
theorem dX11_isGuilty_1 : decode cX11_isGuilty 1 = .ok (.bipush 103, 2) := by decide +kernel
theorem dX11_isGuilty_3 : decode cX11_isGuilty 3 = .ok (.bipush 117, 2) := by decide +kernel
theorem dX11_isGuilty_5 : decode cX11_isGuilty 5 = .ok (.bipush 105, 2) := by decide +kernel
theorem dX11_isGuilty_7 : decode cX11_isGuilty 7 = .ok (.bipush 108, 2) := by decide +kernel
theorem dX11_isGuilty_9 : decode cX11_isGuilty 9 = .ok (.bipush 116, 2) := by decide +kernel
theorem dX11_isGuilty_11 : decode cX11_isGuilty 11 = .ok (.bipush 121, 2) := by decide +kernel
theorem dX11_isGuilty_13 : decode cX11_isGuilty 13 = .ok (.invokestatic 151, 3) := by decide +kernel
theorem dX11_isGuilty_16 : decode cX11_isGuilty 16 = .ok (.invokevirtual 155, 3) := by decide +kernel
theorem dX11_isGuilty_19 : decode cX11_isGuilty 19 = .ok (.ireturn, 1) := by decide +kernel
set_option maxRecDepth 20000 in
theorem ggX11_isFree_X11_spelled : GoodIn wsX11_isFree wsX11_spelled := goodIn_r _ [4, 5, 6] (by decide +kernel) (by decide +kernel)
set_option maxRecDepth 20000 in
theorem gX11_isFree_X11_spelled : GoodIn wsX11_isFree (va_wsS RX11 151 yX11_spelled wsX11_spelled) := goodIn_app (goodIn_of _ (by decide +kernel)) ggX11_isFree_X11_spelled
set_option maxRecDepth 20000 in
theorem ggX11_isFree_X11_isWord : GoodIn wsX11_isFree wsX11_isWord := goodIn_r _ [10, 11, 12, 13, 14, 15, 16, 17, 18, 19, 20, 21, 22, 23, 24, 25, 26, 27, 28, 29, 30, 31, 32, 33, 34, 35, 36, 37, 38, 39, 40, 41, 42, 43, 44, 45, 46, 47, 48, 49, 50, 51, 52, 53, 54, 55, 56, 57, 58] (by decide +kernel) (by decide +kernel)
set_option maxRecDepth 20000 in
theorem gX11_isFree_X11_isWord : GoodIn wsX11_isFree (wsV RX11 155 RX11 yX11_isWord wsX11_isWord) := goodIn_app (goodIn_of _ (by decide +kernel)) ggX11_isFree_X11_isWord
theorem dX11_isFree_0 : decode cX11_isFree 0 = .ok (.aload_n 0, 1) := by decide +kernel
theorem dX11_isFree_1 : decode cX11_isFree 1 = .ok (.bipush 102, 2) := by decide +kernel
theorem dX11_isFree_3 : decode cX11_isFree 3 = .ok (.bipush 114, 2) := by decide +kernel
theorem dX11_isFree_5 : decode cX11_isFree 5 = .ok (.bipush 101, 2) := by decide +kernel
theorem dX11_isFree_7 : decode cX11_isFree 7 = .ok (.bipush 101, 2) := by decide +kernel
theorem dX11_isFree_9 : decode cX11_isFree 9 = .ok (.iconst 0, 1) := by decide +kernel
theorem dX11_isFree_10 : decode cX11_isFree 10 = .ok (.iconst 0, 1) := by decide +kernel
theorem dX11_isFree_11 : decode cX11_isFree 11 = .ok (.invokestatic 151, 3) := by decide +kernel
theorem dX11_isFree_14 : decode cX11_isFree 14 = .ok (.invokevirtual 155, 3) := by decide +kernel
theorem dX11_isFree_17 : decode cX11_isFree 17 = .ok (.ireturn, 1) := by decide +kernel
set_option maxRecDepth 20000 in
theorem ggX11_isCrop_X11_spelled : GoodIn wsX11_isCrop wsX11_spelled := goodIn_r _ [4, 5, 6] (by decide +kernel) (by decide +kernel)
set_option maxRecDepth 20000 in
theorem gX11_isCrop_X11_spelled : GoodIn wsX11_isCrop (va_wsS RX11 151 yX11_spelled wsX11_spelled) := goodIn_app (goodIn_of _ (by decide +kernel)) ggX11_isCrop_X11_spelled
set_option maxRecDepth 20000 in
theorem ggX11_isCrop_X11_isWord : GoodIn wsX11_isCrop wsX11_isWord := goodIn_r _ [10, 11, 12, 13, 14, 15, 16, 17, 18, 19, 20, 21, 22, 23, 24, 25, 26, 27, 28, 29, 30, 31, 32, 33, 34, 35, 36, 37, 38, 39, 40, 41, 42, 43, 44, 45, 46, 47, 48, 49, 50, 51, 52, 53, 54, 55, 56, 57, 58] (by decide +kernel) (by decide +kernel)
set_option maxRecDepth 20000 in
theorem gX11_isCrop_X11_isWord : GoodIn wsX11_isCrop (wsV RX11 155 RX11 yX11_isWord wsX11_isWord) := goodIn_app (goodIn_of _ (by decide +kernel)) ggX11_isCrop_X11_isWord
theorem dX11_isCrop_0 : decode cX11_isCrop 0 = .ok (.aload_n 0, 1) := by decide +kernel
theorem dX11_isCrop_1 : decode cX11_isCrop 1 = .ok (.bipush 99, 2) := by decide +kernel
theorem dX11_isCrop_3 : decode cX11_isCrop 3 = .ok (.bipush 114, 2) := by decide +kernel
theorem dX11_isCrop_5 : decode cX11_isCrop 5 = .ok (.bipush 111, 2) := by decide +kernel
theorem dX11_isCrop_7 : decode cX11_isCrop 7 = .ok (.bipush 112, 2) := by decide +kernel
theorem dX11_isCrop_9 : decode cX11_isCrop 9 = .ok (.iconst 0, 1) := by decide +kernel
theorem dX11_isCrop_10 : decode cX11_isCrop 10 = .ok (.iconst 0, 1) := by decide +kernel
theorem dX11_isCrop_11 : decode cX11_isCrop 11 = .ok (.invokestatic 151, 3) := by decide +kernel
theorem dX11_isCrop_14 : decode cX11_isCrop 14 = .ok (.invokevirtual 155, 3) := by decide +kernel
theorem dX11_isCrop_17 : decode cX11_isCrop 17 = .ok (.ireturn, 1) := by decide +kernel
set_option maxRecDepth 20000 in
theorem ggX11_isOn_X11_spelled : GoodIn wsX11_isOn wsX11_spelled := goodIn_r _ [4, 5, 6] (by decide +kernel) (by decide +kernel)
set_option maxRecDepth 20000 in
theorem gX11_isOn_X11_spelled : GoodIn wsX11_isOn (va_wsS RX11 151 yX11_spelled wsX11_spelled) := goodIn_app (goodIn_of _ (by decide +kernel)) ggX11_isOn_X11_spelled
set_option maxRecDepth 20000 in
theorem ggX11_isOn_X11_isWord : GoodIn wsX11_isOn wsX11_isWord := goodIn_r _ [10, 11, 12, 13, 14, 15, 16, 17, 18, 19, 20, 21, 22, 23, 24, 25, 26, 27, 28, 29, 30, 31, 32, 33, 34, 35, 36, 37, 38, 39, 40, 41, 42, 43, 44, 45, 46, 47, 48, 49, 50, 51, 52, 53, 54, 55, 56, 57, 58] (by decide +kernel) (by decide +kernel)
set_option maxRecDepth 20000 in
theorem gX11_isOn_X11_isWord : GoodIn wsX11_isOn (wsV RX11 155 RX11 yX11_isWord wsX11_isWord) := goodIn_app (goodIn_of _ (by decide +kernel)) ggX11_isOn_X11_isWord
theorem dX11_isOn_0 : decode cX11_isOn 0 = .ok (.aload_n 0, 1) := by decide +kernel
theorem dX11_isOn_1 : decode cX11_isOn 1 = .ok (.bipush 111, 2) := by decide +kernel
theorem dX11_isOn_3 : decode cX11_isOn 3 = .ok (.bipush 110, 2) := by decide +kernel
theorem dX11_isOn_5 : decode cX11_isOn 5 = .ok (.iconst 0, 1) := by decide +kernel
theorem dX11_isOn_6 : decode cX11_isOn 6 = .ok (.iconst 0, 1) := by decide +kernel
theorem dX11_isOn_7 : decode cX11_isOn 7 = .ok (.iconst 0, 1) := by decide +kernel
theorem dX11_isOn_8 : decode cX11_isOn 8 = .ok (.iconst 0, 1) := by decide +kernel
theorem dX11_isOn_9 : decode cX11_isOn 9 = .ok (.invokestatic 151, 3) := by decide +kernel
theorem dX11_isOn_12 : decode cX11_isOn 12 = .ok (.invokevirtual 155, 3) := by decide +kernel
theorem dX11_isOn_15 : decode cX11_isOn 15 = .ok (.ireturn, 1) := by decide +kernel
set_option maxRecDepth 20000 in
theorem ggX11_isHunger_X11_spelled : GoodIn wsX11_isHunger wsX11_spelled := goodIn_r _ [4, 5, 6] (by decide +kernel) (by decide +kernel)
set_option maxRecDepth 20000 in
theorem gX11_isHunger_X11_spelled : GoodIn wsX11_isHunger (va_wsS RX11 151 yX11_spelled wsX11_spelled) := goodIn_app (goodIn_of _ (by decide +kernel)) ggX11_isHunger_X11_spelled
set_option maxRecDepth 20000 in
theorem ggX11_isHunger_X11_isWord : GoodIn wsX11_isHunger wsX11_isWord := goodIn_r _ [10, 11, 12, 13, 14, 15, 16, 17, 18, 19, 20, 21, 22, 23, 24, 25, 26, 27, 28, 29, 30, 31, 32, 33, 34, 35, 36, 37, 38, 39, 40, 41, 42, 43, 44, 45, 46, 47, 48, 49, 50, 51, 52, 53, 54, 55, 56, 57, 58] (by decide +kernel) (by decide +kernel)
set_option maxRecDepth 20000 in
theorem gX11_isHunger_X11_isWord : GoodIn wsX11_isHunger (wsV RX11 155 RX11 yX11_isWord wsX11_isWord) := goodIn_app (goodIn_of _ (by decide +kernel)) ggX11_isHunger_X11_isWord
theorem dX11_isHunger_0 : decode cX11_isHunger 0 = .ok (.aload_n 0, 1) := by decide +kernel
theorem dX11_isHunger_1 : decode cX11_isHunger 1 = .ok (.bipush 104, 2) := by decide +kernel
theorem dX11_isHunger_3 : decode cX11_isHunger 3 = .ok (.bipush 117, 2) := by decide +kernel
theorem dX11_isHunger_5 : decode cX11_isHunger 5 = .ok (.bipush 110, 2) := by decide +kernel
theorem dX11_isHunger_7 : decode cX11_isHunger 7 = .ok (.bipush 103, 2) := by decide +kernel
theorem dX11_isHunger_9 : decode cX11_isHunger 9 = .ok (.bipush 101, 2) := by decide +kernel
theorem dX11_isHunger_11 : decode cX11_isHunger 11 = .ok (.bipush 114, 2) := by decide +kernel
theorem dX11_isHunger_13 : decode cX11_isHunger 13 = .ok (.invokestatic 151, 3) := by decide +kernel
theorem dX11_isHunger_16 : decode cX11_isHunger 16 = .ok (.invokevirtual 155, 3) := by decide +kernel
theorem dX11_isHunger_19 : decode cX11_isHunger 19 = .ok (.ireturn, 1) := by decide +kernel
set_option maxRecDepth 20000 in
theorem ggX11_isLaw_X11_spelled : GoodIn wsX11_isLaw wsX11_spelled := goodIn_r _ [4, 5, 6] (by decide +kernel) (by decide +kernel)
set_option maxRecDepth 20000 in
theorem gX11_isLaw_X11_spelled : GoodIn wsX11_isLaw (va_wsS RX11 151 yX11_spelled wsX11_spelled) := goodIn_app (goodIn_of _ (by decide +kernel)) ggX11_isLaw_X11_spelled
set_option maxRecDepth 20000 in
theorem ggX11_isLaw_X11_isWord : GoodIn wsX11_isLaw wsX11_isWord := goodIn_r _ [10, 11, 12, 13, 14, 15, 16, 17, 18, 19, 20, 21, 22, 23, 24, 25, 26, 27, 28, 29, 30, 31, 32, 33, 34, 35, 36, 37, 38, 39, 40, 41, 42, 43, 44, 45, 46, 47, 48, 49, 50, 51, 52, 53, 54, 55, 56, 57, 58] (by decide +kernel) (by decide +kernel)
set_option maxRecDepth 20000 in
theorem gX11_isLaw_X11_isWord : GoodIn wsX11_isLaw (wsV RX11 155 RX11 yX11_isWord wsX11_isWord) := goodIn_app (goodIn_of _ (by decide +kernel)) ggX11_isLaw_X11_isWord
theorem dX11_isLaw_0 : decode cX11_isLaw 0 = .ok (.aload_n 0, 1) := by decide +kernel
theorem dX11_isLaw_1 : decode cX11_isLaw 1 = .ok (.bipush 108, 2) := by decide +kernel
theorem dX11_isLaw_3 : decode cX11_isLaw 3 = .ok (.bipush 97, 2) := by decide +kernel
theorem dX11_isLaw_5 : decode cX11_isLaw 5 = .ok (.bipush 119, 2) := by decide +kernel
theorem dX11_isLaw_7 : decode cX11_isLaw 7 = .ok (.iconst 0, 1) := by decide +kernel
theorem dX11_isLaw_8 : decode cX11_isLaw 8 = .ok (.iconst 0, 1) := by decide +kernel
theorem dX11_isLaw_9 : decode cX11_isLaw 9 = .ok (.iconst 0, 1) := by decide +kernel
theorem dX11_isLaw_10 : decode cX11_isLaw 10 = .ok (.invokestatic 151, 3) := by decide +kernel
theorem dX11_isLaw_13 : decode cX11_isLaw 13 = .ok (.invokevirtual 155, 3) := by decide +kernel
theorem dX11_isLaw_16 : decode cX11_isLaw 16 = .ok (.ireturn, 1) := by decide +kernel
set_option maxRecDepth 20000 in
theorem ggX11_lawWord_X11_spelled : GoodIn wsX11_lawWord wsX11_spelled := goodIn_r _ [4, 5, 6] (by decide +kernel) (by decide +kernel)
set_option maxRecDepth 20000 in
theorem gX11_lawWord_X11_spelled : GoodIn wsX11_lawWord (va_wsS RX11 151 yX11_spelled wsX11_spelled) := goodIn_app (goodIn_of _ (by decide +kernel)) ggX11_lawWord_X11_spelled
set_option maxRecDepth 20000 in
theorem ggX11_lawWord_X11_isWord : GoodIn wsX11_lawWord wsX11_isWord := goodIn_r _ [10, 11, 12, 13, 14, 15, 16, 17, 18, 19, 20, 21, 22, 23, 24, 25, 26, 27, 28, 29, 30, 31, 32, 33, 34, 35, 36, 37, 38, 39, 40, 41, 42, 43, 44, 45, 46, 47, 48, 49, 50, 51, 52, 53, 54, 55, 56, 57, 58] (by decide +kernel) (by decide +kernel)
set_option maxRecDepth 20000 in
theorem gX11_lawWord_X11_isWord : GoodIn wsX11_lawWord (wsV RX11 155 RX11 yX11_isWord wsX11_isWord) := goodIn_app (goodIn_of _ (by decide +kernel)) ggX11_lawWord_X11_isWord
theorem dX11_lawWord_0 : decode cX11_lawWord 0 = .ok (.aload_n 0, 1) := by decide +kernel
theorem dX11_lawWord_1 : decode cX11_lawWord 1 = .ok (.bipush 109, 2) := by decide +kernel
theorem dX11_lawWord_3 : decode cX11_lawWord 3 = .ok (.bipush 111, 2) := by decide +kernel
theorem dX11_lawWord_5 : decode cX11_lawWord 5 = .ok (.bipush 115, 2) := by decide +kernel
theorem dX11_lawWord_7 : decode cX11_lawWord 7 = .ok (.bipush 116, 2) := by decide +kernel
theorem dX11_lawWord_9 : decode cX11_lawWord 9 = .ok (.iconst 0, 1) := by decide +kernel
theorem dX11_lawWord_10 : decode cX11_lawWord 10 = .ok (.iconst 0, 1) := by decide +kernel
theorem dX11_lawWord_11 : decode cX11_lawWord 11 = .ok (.invokestatic 151, 3) := by decide +kernel
theorem dX11_lawWord_14 : decode cX11_lawWord 14 = .ok (.invokevirtual 155, 3) := by decide +kernel
theorem dX11_lawWord_17 : decode cX11_lawWord 17 = .ok (.ifCond .eq 5, 3) := by decide +kernel
theorem dX11_lawWord_20 : decode cX11_lawWord 20 = .ok (.iconst 0, 1) := by decide +kernel
theorem dX11_lawWord_21 : decode cX11_lawWord 21 = .ok (.ireturn, 1) := by decide +kernel
theorem dX11_lawWord_22 : decode cX11_lawWord 22 = .ok (.aload_n 0, 1) := by decide +kernel
theorem dX11_lawWord_23 : decode cX11_lawWord 23 = .ok (.bipush 97, 2) := by decide +kernel
theorem dX11_lawWord_25 : decode cX11_lawWord 25 = .ok (.bipush 108, 2) := by decide +kernel
theorem dX11_lawWord_27 : decode cX11_lawWord 27 = .ok (.bipush 108, 2) := by decide +kernel
theorem dX11_lawWord_29 : decode cX11_lawWord 29 = .ok (.iconst 0, 1) := by decide +kernel
theorem dX11_lawWord_30 : decode cX11_lawWord 30 = .ok (.iconst 0, 1) := by decide +kernel
theorem dX11_lawWord_31 : decode cX11_lawWord 31 = .ok (.iconst 0, 1) := by decide +kernel
theorem dX11_lawWord_32 : decode cX11_lawWord 32 = .ok (.invokestatic 151, 3) := by decide +kernel
theorem dX11_lawWord_35 : decode cX11_lawWord 35 = .ok (.invokevirtual 155, 3) := by decide +kernel
theorem dX11_lawWord_38 : decode cX11_lawWord 38 = .ok (.ifCond .eq 5, 3) := by decide +kernel
theorem dX11_lawWord_41 : decode cX11_lawWord 41 = .ok (.iconst 1, 1) := by decide +kernel
theorem dX11_lawWord_42 : decode cX11_lawWord 42 = .ok (.ireturn, 1) := by decide +kernel
theorem dX11_lawWord_43 : decode cX11_lawWord 43 = .ok (.aload_n 0, 1) := by decide +kernel
theorem dX11_lawWord_44 : decode cX11_lawWord 44 = .ok (.bipush 116, 2) := by decide +kernel
theorem dX11_lawWord_46 : decode cX11_lawWord 46 = .ok (.bipush 119, 2) := by decide +kernel
theorem dX11_lawWord_48 : decode cX11_lawWord 48 = .ok (.bipush 111, 2) := by decide +kernel
theorem dX11_lawWord_50 : decode cX11_lawWord 50 = .ok (.iconst 0, 1) := by decide +kernel
theorem dX11_lawWord_51 : decode cX11_lawWord 51 = .ok (.iconst 0, 1) := by decide +kernel
theorem dX11_lawWord_52 : decode cX11_lawWord 52 = .ok (.iconst 0, 1) := by decide +kernel
theorem dX11_lawWord_53 : decode cX11_lawWord 53 = .ok (.invokestatic 151, 3) := by decide +kernel
theorem dX11_lawWord_56 : decode cX11_lawWord 56 = .ok (.invokevirtual 155, 3) := by decide +kernel
theorem dX11_lawWord_59 : decode cX11_lawWord 59 = .ok (.ifCond .eq 7, 3) := by decide +kernel
theorem dX11_lawWord_62 : decode cX11_lawWord 62 = .ok (.iconst 2, 1) := by decide +kernel
theorem dX11_lawWord_63 : decode cX11_lawWord 63 = .ok (.goto 4, 3) := by decide +kernel
theorem dX11_lawWord_66 : decode cX11_lawWord 66 = .ok (.iconst (-1), 1) := by decide +kernel
theorem dX11_lawWord_67 : decode cX11_lawWord 67 = .ok (.ireturn, 1) := by decide +kernel
set_option maxRecDepth 20000 in
theorem ggX11_stepWord_X11_spelled : GoodIn wsX11_stepWord wsX11_spelled := goodIn_r _ [6, 7, 1] (by decide +kernel) (by decide +kernel)
set_option maxRecDepth 20000 in
theorem gX11_stepWord_X11_spelled : GoodIn wsX11_stepWord (va_wsS RX11 151 yX11_spelled wsX11_spelled) := goodIn_app (goodIn_of _ (by decide +kernel)) ggX11_stepWord_X11_spelled
set_option maxRecDepth 20000 in
theorem ggX11_stepWord_X11_isWord : GoodIn wsX11_stepWord wsX11_isWord := goodIn_r _ [11, 12, 13, 14, 15, 16, 17, 18, 19, 20, 21, 22, 23, 24, 25, 26, 27, 28, 29, 30, 31, 32, 33, 34, 35, 36, 37, 38, 39, 40, 41, 42, 43, 44, 45, 46, 47, 48, 49, 50, 51, 52, 53, 54, 55, 56, 57, 58, 59] (by decide +kernel) (by decide +kernel)
set_option maxRecDepth 20000 in
theorem gX11_stepWord_X11_isWord : GoodIn wsX11_stepWord (wsV RX11 155 RX11 yX11_isWord wsX11_isWord) := goodIn_app (goodIn_of _ (by decide +kernel)) ggX11_stepWord_X11_isWord
theorem dX11_stepWord_0 : decode cX11_stepWord 0 = .ok (.aload_n 0, 1) := by decide +kernel
theorem dX11_stepWord_1 : decode cX11_stepWord 1 = .ok (.bipush 115, 2) := by decide +kernel
theorem dX11_stepWord_3 : decode cX11_stepWord 3 = .ok (.bipush 104, 2) := by decide +kernel
theorem dX11_stepWord_5 : decode cX11_stepWord 5 = .ok (.bipush 111, 2) := by decide +kernel
theorem dX11_stepWord_7 : decode cX11_stepWord 7 = .ok (.bipush 119, 2) := by decide +kernel
theorem dX11_stepWord_9 : decode cX11_stepWord 9 = .ok (.iconst 0, 1) := by decide +kernel
theorem dX11_stepWord_10 : decode cX11_stepWord 10 = .ok (.iconst 0, 1) := by decide +kernel
theorem dX11_stepWord_11 : decode cX11_stepWord 11 = .ok (.invokestatic 151, 3) := by decide +kernel
theorem dX11_stepWord_14 : decode cX11_stepWord 14 = .ok (.invokevirtual 155, 3) := by decide +kernel
theorem dX11_stepWord_17 : decode cX11_stepWord 17 = .ok (.ifCond .eq 5, 3) := by decide +kernel
theorem dX11_stepWord_20 : decode cX11_stepWord 20 = .ok (.iconst 0, 1) := by decide +kernel
theorem dX11_stepWord_21 : decode cX11_stepWord 21 = .ok (.ireturn, 1) := by decide +kernel
theorem dX11_stepWord_22 : decode cX11_stepWord 22 = .ok (.aload_n 0, 1) := by decide +kernel
theorem dX11_stepWord_23 : decode cX11_stepWord 23 = .ok (.bipush 116, 2) := by decide +kernel
theorem dX11_stepWord_25 : decode cX11_stepWord 25 = .ok (.bipush 97, 2) := by decide +kernel
theorem dX11_stepWord_27 : decode cX11_stepWord 27 = .ok (.bipush 108, 2) := by decide +kernel
theorem dX11_stepWord_29 : decode cX11_stepWord 29 = .ok (.bipush 107, 2) := by decide +kernel
theorem dX11_stepWord_31 : decode cX11_stepWord 31 = .ok (.iconst 0, 1) := by decide +kernel
theorem dX11_stepWord_32 : decode cX11_stepWord 32 = .ok (.iconst 0, 1) := by decide +kernel
theorem dX11_stepWord_33 : decode cX11_stepWord 33 = .ok (.invokestatic 151, 3) := by decide +kernel
theorem dX11_stepWord_36 : decode cX11_stepWord 36 = .ok (.invokevirtual 155, 3) := by decide +kernel
theorem dX11_stepWord_39 : decode cX11_stepWord 39 = .ok (.ifCond .eq 5, 3) := by decide +kernel
theorem dX11_stepWord_42 : decode cX11_stepWord 42 = .ok (.iconst 1, 1) := by decide +kernel
theorem dX11_stepWord_43 : decode cX11_stepWord 43 = .ok (.ireturn, 1) := by decide +kernel
theorem dX11_stepWord_44 : decode cX11_stepWord 44 = .ok (.aload_n 0, 1) := by decide +kernel
theorem dX11_stepWord_45 : decode cX11_stepWord 45 = .ok (.bipush 118, 2) := by decide +kernel
theorem dX11_stepWord_47 : decode cX11_stepWord 47 = .ok (.bipush 101, 2) := by decide +kernel
theorem dX11_stepWord_49 : decode cX11_stepWord 49 = .ok (.bipush 114, 2) := by decide +kernel
theorem dX11_stepWord_51 : decode cX11_stepWord 51 = .ok (.bipush 100, 2) := by decide +kernel
theorem dX11_stepWord_53 : decode cX11_stepWord 53 = .ok (.bipush 105, 2) := by decide +kernel
theorem dX11_stepWord_55 : decode cX11_stepWord 55 = .ok (.bipush 99, 2) := by decide +kernel
theorem dX11_stepWord_57 : decode cX11_stepWord 57 = .ok (.invokestatic 151, 3) := by decide +kernel
theorem dX11_stepWord_60 : decode cX11_stepWord 60 = .ok (.ldc2_w 135, 3) := by decide +kernel
theorem dX11_stepWord_63 : decode cX11_stepWord 63 = .ok (.lmul, 1) := by decide +kernel
theorem dX11_stepWord_64 : decode cX11_stepWord 64 = .ok (.ldc2_w 165, 3) := by decide +kernel
theorem dX11_stepWord_67 : decode cX11_stepWord 67 = .ok (.ladd, 1) := by decide +kernel
theorem dX11_stepWord_68 : decode cX11_stepWord 68 = .ok (.invokevirtual 155, 3) := by decide +kernel
theorem dX11_stepWord_71 : decode cX11_stepWord 71 = .ok (.ifCond .eq 5, 3) := by decide +kernel
theorem dX11_stepWord_74 : decode cX11_stepWord 74 = .ok (.iconst 2, 1) := by decide +kernel
theorem dX11_stepWord_75 : decode cX11_stepWord 75 = .ok (.ireturn, 1) := by decide +kernel
theorem dX11_stepWord_76 : decode cX11_stepWord 76 = .ok (.aload_n 0, 1) := by decide +kernel
theorem dX11_stepWord_77 : decode cX11_stepWord 77 = .ok (.bipush 115, 2) := by decide +kernel
theorem dX11_stepWord_79 : decode cX11_stepWord 79 = .ok (.bipush 116, 2) := by decide +kernel
theorem dX11_stepWord_81 : decode cX11_stepWord 81 = .ok (.bipush 114, 2) := by decide +kernel
theorem dX11_stepWord_83 : decode cX11_stepWord 83 = .ok (.bipush 105, 2) := by decide +kernel
theorem dX11_stepWord_85 : decode cX11_stepWord 85 = .ok (.bipush 107, 2) := by decide +kernel
theorem dX11_stepWord_87 : decode cX11_stepWord 87 = .ok (.bipush 101, 2) := by decide +kernel
theorem dX11_stepWord_89 : decode cX11_stepWord 89 = .ok (.invokestatic 151, 3) := by decide +kernel
theorem dX11_stepWord_92 : decode cX11_stepWord 92 = .ok (.invokevirtual 155, 3) := by decide +kernel
theorem dX11_stepWord_95 : decode cX11_stepWord 95 = .ok (.ifCond .eq 5, 3) := by decide +kernel
theorem dX11_stepWord_98 : decode cX11_stepWord 98 = .ok (.iconst 3, 1) := by decide +kernel
theorem dX11_stepWord_99 : decode cX11_stepWord 99 = .ok (.ireturn, 1) := by decide +kernel
theorem dX11_stepWord_100 : decode cX11_stepWord 100 = .ok (.aload_n 0, 1) := by decide +kernel
theorem dX11_stepWord_101 : decode cX11_stepWord 101 = .ok (.bipush 115, 2) := by decide +kernel
theorem dX11_stepWord_103 : decode cX11_stepWord 103 = .ok (.bipush 101, 2) := by decide +kernel
theorem dX11_stepWord_105 : decode cX11_stepWord 105 = .ok (.bipush 97, 2) := by decide +kernel
theorem dX11_stepWord_107 : decode cX11_stepWord 107 = .ok (.bipush 116, 2) := by decide +kernel
theorem dX11_stepWord_109 : decode cX11_stepWord 109 = .ok (.iconst 0, 1) := by decide +kernel
theorem dX11_stepWord_110 : decode cX11_stepWord 110 = .ok (.iconst 0, 1) := by decide +kernel
theorem dX11_stepWord_111 : decode cX11_stepWord 111 = .ok (.invokestatic 151, 3) := by decide +kernel
theorem dX11_stepWord_114 : decode cX11_stepWord 114 = .ok (.invokevirtual 155, 3) := by decide +kernel
theorem dX11_stepWord_117 : decode cX11_stepWord 117 = .ok (.ifCond .eq 5, 3) := by decide +kernel
theorem dX11_stepWord_120 : decode cX11_stepWord 120 = .ok (.iconst 4, 1) := by decide +kernel
theorem dX11_stepWord_121 : decode cX11_stepWord 121 = .ok (.ireturn, 1) := by decide +kernel
theorem dX11_stepWord_122 : decode cX11_stepWord 122 = .ok (.aload_n 0, 1) := by decide +kernel
theorem dX11_stepWord_123 : decode cX11_stepWord 123 = .ok (.bipush 98, 2) := by decide +kernel
theorem dX11_stepWord_125 : decode cX11_stepWord 125 = .ok (.bipush 114, 2) := by decide +kernel
theorem dX11_stepWord_127 : decode cX11_stepWord 127 = .ok (.bipush 105, 2) := by decide +kernel
theorem dX11_stepWord_129 : decode cX11_stepWord 129 = .ok (.bipush 98, 2) := by decide +kernel
theorem dX11_stepWord_131 : decode cX11_stepWord 131 = .ok (.bipush 101, 2) := by decide +kernel
theorem dX11_stepWord_133 : decode cX11_stepWord 133 = .ok (.iconst 0, 1) := by decide +kernel
theorem dX11_stepWord_134 : decode cX11_stepWord 134 = .ok (.invokestatic 151, 3) := by decide +kernel
theorem dX11_stepWord_137 : decode cX11_stepWord 137 = .ok (.invokevirtual 155, 3) := by decide +kernel
theorem dX11_stepWord_140 : decode cX11_stepWord 140 = .ok (.ifCond .eq 5, 3) := by decide +kernel
theorem dX11_stepWord_143 : decode cX11_stepWord 143 = .ok (.iconst 5, 1) := by decide +kernel
theorem dX11_stepWord_144 : decode cX11_stepWord 144 = .ok (.ireturn, 1) := by decide +kernel
theorem dX11_stepWord_145 : decode cX11_stepWord 145 = .ok (.aload_n 0, 1) := by decide +kernel
theorem dX11_stepWord_146 : decode cX11_stepWord 146 = .ok (.bipush 109, 2) := by decide +kernel
theorem dX11_stepWord_148 : decode cX11_stepWord 148 = .ok (.bipush 111, 2) := by decide +kernel
theorem dX11_stepWord_150 : decode cX11_stepWord 150 = .ok (.bipush 111, 2) := by decide +kernel
theorem dX11_stepWord_152 : decode cX11_stepWord 152 = .ok (.bipush 100, 2) := by decide +kernel
theorem dX11_stepWord_154 : decode cX11_stepWord 154 = .ok (.iconst 0, 1) := by decide +kernel
theorem dX11_stepWord_155 : decode cX11_stepWord 155 = .ok (.iconst 0, 1) := by decide +kernel
theorem dX11_stepWord_156 : decode cX11_stepWord 156 = .ok (.invokestatic 151, 3) := by decide +kernel
theorem dX11_stepWord_159 : decode cX11_stepWord 159 = .ok (.invokevirtual 155, 3) := by decide +kernel
theorem dX11_stepWord_162 : decode cX11_stepWord 162 = .ok (.ifCond .eq 6, 3) := by decide +kernel
theorem dX11_stepWord_165 : decode cX11_stepWord 165 = .ok (.bipush 6, 2) := by decide +kernel
theorem dX11_stepWord_167 : decode cX11_stepWord 167 = .ok (.ireturn, 1) := by decide +kernel
theorem dX11_stepWord_168 : decode cX11_stepWord 168 = .ok (.aload_n 0, 1) := by decide +kernel
theorem dX11_stepWord_169 : decode cX11_stepWord 169 = .ok (.bipush 119, 2) := by decide +kernel
theorem dX11_stepWord_171 : decode cX11_stepWord 171 = .ok (.bipush 104, 2) := by decide +kernel
theorem dX11_stepWord_173 : decode cX11_stepWord 173 = .ok (.bipush 101, 2) := by decide +kernel
theorem dX11_stepWord_175 : decode cX11_stepWord 175 = .ok (.bipush 110, 2) := by decide +kernel
theorem dX11_stepWord_177 : decode cX11_stepWord 177 = .ok (.iconst 0, 1) := by decide +kernel
theorem dX11_stepWord_178 : decode cX11_stepWord 178 = .ok (.iconst 0, 1) := by decide +kernel
theorem dX11_stepWord_179 : decode cX11_stepWord 179 = .ok (.invokestatic 151, 3) := by decide +kernel
theorem dX11_stepWord_182 : decode cX11_stepWord 182 = .ok (.invokevirtual 155, 3) := by decide +kernel
theorem dX11_stepWord_185 : decode cX11_stepWord 185 = .ok (.ifCond .eq 6, 3) := by decide +kernel
theorem dX11_stepWord_188 : decode cX11_stepWord 188 = .ok (.bipush 7, 2) := by decide +kernel
theorem dX11_stepWord_190 : decode cX11_stepWord 190 = .ok (.ireturn, 1) := by decide +kernel
theorem dX11_stepWord_191 : decode cX11_stepWord 191 = .ok (.aload_n 0, 1) := by decide +kernel
theorem dX11_stepWord_192 : decode cX11_stepWord 192 = .ok (.bipush 108, 2) := by decide +kernel
theorem dX11_stepWord_194 : decode cX11_stepWord 194 = .ok (.bipush 111, 2) := by decide +kernel
theorem dX11_stepWord_196 : decode cX11_stepWord 196 = .ok (.bipush 111, 2) := by decide +kernel
theorem dX11_stepWord_198 : decode cX11_stepWord 198 = .ok (.bipush 112, 2) := by decide +kernel
theorem dX11_stepWord_200 : decode cX11_stepWord 200 = .ok (.iconst 0, 1) := by decide +kernel
theorem dX11_stepWord_201 : decode cX11_stepWord 201 = .ok (.iconst 0, 1) := by decide +kernel
theorem dX11_stepWord_202 : decode cX11_stepWord 202 = .ok (.invokestatic 151, 3) := by decide +kernel
theorem dX11_stepWord_205 : decode cX11_stepWord 205 = .ok (.invokevirtual 155, 3) := by decide +kernel
theorem dX11_stepWord_208 : decode cX11_stepWord 208 = .ok (.ifCond .eq 6, 3) := by decide +kernel
theorem dX11_stepWord_211 : decode cX11_stepWord 211 = .ok (.bipush 8, 2) := by decide +kernel
theorem dX11_stepWord_213 : decode cX11_stepWord 213 = .ok (.ireturn, 1) := by decide +kernel
theorem dX11_stepWord_214 : decode cX11_stepWord 214 = .ok (.aload_n 0, 1) := by decide +kernel
theorem dX11_stepWord_215 : decode cX11_stepWord 215 = .ok (.bipush 115, 2) := by decide +kernel
theorem dX11_stepWord_217 : decode cX11_stepWord 217 = .ok (.bipush 116, 2) := by decide +kernel
theorem dX11_stepWord_219 : decode cX11_stepWord 219 = .ok (.bipush 111, 2) := by decide +kernel
theorem dX11_stepWord_221 : decode cX11_stepWord 221 = .ok (.bipush 112, 2) := by decide +kernel
theorem dX11_stepWord_223 : decode cX11_stepWord 223 = .ok (.iconst 0, 1) := by decide +kernel
theorem dX11_stepWord_224 : decode cX11_stepWord 224 = .ok (.iconst 0, 1) := by decide +kernel
theorem dX11_stepWord_225 : decode cX11_stepWord 225 = .ok (.invokestatic 151, 3) := by decide +kernel
theorem dX11_stepWord_228 : decode cX11_stepWord 228 = .ok (.invokevirtual 155, 3) := by decide +kernel
theorem dX11_stepWord_231 : decode cX11_stepWord 231 = .ok (.ifCond .eq 8, 3) := by decide +kernel
theorem dX11_stepWord_234 : decode cX11_stepWord 234 = .ok (.bipush 9, 2) := by decide +kernel
theorem dX11_stepWord_236 : decode cX11_stepWord 236 = .ok (.goto 4, 3) := by decide +kernel
theorem dX11_stepWord_239 : decode cX11_stepWord 239 = .ok (.iconst (-1), 1) := by decide +kernel
theorem dX11_stepWord_240 : decode cX11_stepWord 240 = .ok (.ireturn, 1) := by decide +kernel
set_option maxRecDepth 20000 in
theorem ggX11_testWord_X11_spelled : GoodIn wsX11_testWord wsX11_spelled := goodIn_r _ [4, 5, 6] (by decide +kernel) (by decide +kernel)
set_option maxRecDepth 20000 in
theorem gX11_testWord_X11_spelled : GoodIn wsX11_testWord (va_wsS RX11 151 yX11_spelled wsX11_spelled) := goodIn_app (goodIn_of _ (by decide +kernel)) ggX11_testWord_X11_spelled
set_option maxRecDepth 20000 in
theorem ggX11_testWord_X11_isWord : GoodIn wsX11_testWord wsX11_isWord := goodIn_r _ [10, 11, 12, 22, 23, 24, 25, 26, 27, 28, 29, 30, 31, 32, 33, 34, 35, 36, 37, 38, 39, 40, 41, 42, 43, 44, 45, 46, 47, 48, 49, 50, 51, 52, 53, 54, 55, 56, 57, 58, 59, 60, 61, 62, 63, 64, 65, 66, 67] (by decide +kernel) (by decide +kernel)
set_option maxRecDepth 20000 in
theorem gX11_testWord_X11_isWord : GoodIn wsX11_testWord (wsV RX11 155 RX11 yX11_isWord wsX11_isWord) := goodIn_app (goodIn_of _ (by decide +kernel)) ggX11_testWord_X11_isWord
set_option maxRecDepth 20000 in
theorem ggX11_testWord_X11_isWeather : GoodIn wsX11_testWord wsX11_isWeather := goodIn_r _ [16, 6, 17, 1, 2, 3, 4, 5, 7, 8, 9, 10, 11, 12, 22, 23, 24, 25, 26, 27, 28, 29, 30, 31, 32, 33, 34, 35, 36, 37, 38, 39, 40, 41, 42, 43, 44, 45, 46, 47, 48, 49, 50, 51, 52, 53, 54, 55, 56, 57, 58, 59, 60, 61, 62, 63, 64, 65, 66, 67] (by decide +kernel) (by decide +kernel)
set_option maxRecDepth 20000 in
theorem gX11_testWord_X11_isWeather : GoodIn wsX11_testWord (wsV RX11 167 RX11 yX11_isWeather wsX11_isWeather) := goodIn_app (goodIn_of _ (by decide +kernel)) ggX11_testWord_X11_isWeather
set_option maxRecDepth 20000 in
theorem ggX11_testWord_X11_isCrop : GoodIn wsX11_testWord wsX11_isCrop := goodIn_r _ [21, 1, 2, 3, 4, 5, 6, 7, 8, 9, 10, 11, 12, 22, 23, 24, 25, 26, 27, 28, 29, 30, 31, 32, 33, 34, 35, 36, 37, 38, 39, 40, 41, 42, 43, 44, 45, 46, 47, 48, 49, 50, 51, 52, 53, 54, 55, 56, 57, 58, 59, 60, 61, 62, 63, 64, 65, 66, 67] (by decide +kernel) (by decide +kernel)
set_option maxRecDepth 20000 in
theorem gX11_testWord_X11_isCrop : GoodIn wsX11_testWord (wsV RX11 171 RX11 yX11_isCrop wsX11_isCrop) := goodIn_app (goodIn_of _ (by decide +kernel)) ggX11_testWord_X11_isCrop
theorem dX11_testWord_0 : decode cX11_testWord 0 = .ok (.aload_n 0, 1) := by decide +kernel
theorem dX11_testWord_1 : decode cX11_testWord 1 = .ok (.bipush 118, 2) := by decide +kernel
theorem dX11_testWord_3 : decode cX11_testWord 3 = .ok (.bipush 111, 2) := by decide +kernel
theorem dX11_testWord_5 : decode cX11_testWord 5 = .ok (.bipush 116, 2) := by decide +kernel
theorem dX11_testWord_7 : decode cX11_testWord 7 = .ok (.bipush 101, 2) := by decide +kernel
theorem dX11_testWord_9 : decode cX11_testWord 9 = .ok (.bipush 115, 2) := by decide +kernel
theorem dX11_testWord_11 : decode cX11_testWord 11 = .ok (.iconst 0, 1) := by decide +kernel
theorem dX11_testWord_12 : decode cX11_testWord 12 = .ok (.invokestatic 151, 3) := by decide +kernel
theorem dX11_testWord_15 : decode cX11_testWord 15 = .ok (.invokevirtual 155, 3) := by decide +kernel
theorem dX11_testWord_18 : decode cX11_testWord 18 = .ok (.ifCond .eq 7, 3) := by decide +kernel
theorem dX11_testWord_21 : decode cX11_testWord 21 = .ok (.iconst 0, 1) := by decide +kernel
theorem dX11_testWord_22 : decode cX11_testWord 22 = .ok (.goto 26, 3) := by decide +kernel
theorem dX11_testWord_25 : decode cX11_testWord 25 = .ok (.aload_n 0, 1) := by decide +kernel
theorem dX11_testWord_26 : decode cX11_testWord 26 = .ok (.invokevirtual 167, 3) := by decide +kernel
theorem dX11_testWord_29 : decode cX11_testWord 29 = .ok (.ifCond .eq 7, 3) := by decide +kernel
theorem dX11_testWord_32 : decode cX11_testWord 32 = .ok (.iconst 1, 1) := by decide +kernel
theorem dX11_testWord_33 : decode cX11_testWord 33 = .ok (.goto 15, 3) := by decide +kernel
theorem dX11_testWord_36 : decode cX11_testWord 36 = .ok (.aload_n 0, 1) := by decide +kernel
theorem dX11_testWord_37 : decode cX11_testWord 37 = .ok (.invokevirtual 171, 3) := by decide +kernel
theorem dX11_testWord_40 : decode cX11_testWord 40 = .ok (.ifCond .eq 7, 3) := by decide +kernel
theorem dX11_testWord_43 : decode cX11_testWord 43 = .ok (.iconst 2, 1) := by decide +kernel
theorem dX11_testWord_44 : decode cX11_testWord 44 = .ok (.goto 4, 3) := by decide +kernel
theorem dX11_testWord_47 : decode cX11_testWord 47 = .ok (.iconst (-1), 1) := by decide +kernel
theorem dX11_testWord_48 : decode cX11_testWord 48 = .ok (.ireturn, 1) := by decide +kernel
set_option maxRecDepth 20000 in
theorem ggX11_isEnd_X11_spelled : GoodIn wsX11_isEnd wsX11_spelled := goodIn_r _ [4, 5, 6] (by decide +kernel) (by decide +kernel)
set_option maxRecDepth 20000 in
theorem gX11_isEnd_X11_spelled : GoodIn wsX11_isEnd (va_wsS RX11 151 yX11_spelled wsX11_spelled) := goodIn_app (goodIn_of _ (by decide +kernel)) ggX11_isEnd_X11_spelled
set_option maxRecDepth 20000 in
theorem ggX11_isEnd_X11_isWord : GoodIn wsX11_isEnd wsX11_isWord := goodIn_r _ [10, 11, 12, 13, 14, 15, 16, 17, 18, 19, 20, 21, 22, 23, 24, 25, 26, 27, 28, 29, 30, 31, 32, 33, 34, 35, 36, 37, 38, 39, 40, 41, 42, 43, 44, 45, 46, 47, 48, 49, 50, 51, 52, 53, 54, 55, 56, 57, 58] (by decide +kernel) (by decide +kernel)
set_option maxRecDepth 20000 in
theorem gX11_isEnd_X11_isWord : GoodIn wsX11_isEnd (wsV RX11 155 RX11 yX11_isWord wsX11_isWord) := goodIn_app (goodIn_of _ (by decide +kernel)) ggX11_isEnd_X11_isWord
theorem dX11_isEnd_0 : decode cX11_isEnd 0 = .ok (.aload_n 0, 1) := by decide +kernel
theorem dX11_isEnd_1 : decode cX11_isEnd 1 = .ok (.bipush 101, 2) := by decide +kernel
theorem dX11_isEnd_3 : decode cX11_isEnd 3 = .ok (.bipush 110, 2) := by decide +kernel
theorem dX11_isEnd_5 : decode cX11_isEnd 5 = .ok (.bipush 100, 2) := by decide +kernel
theorem dX11_isEnd_7 : decode cX11_isEnd 7 = .ok (.iconst 0, 1) := by decide +kernel
theorem dX11_isEnd_8 : decode cX11_isEnd 8 = .ok (.iconst 0, 1) := by decide +kernel
theorem dX11_isEnd_9 : decode cX11_isEnd 9 = .ok (.iconst 0, 1) := by decide +kernel
theorem dX11_isEnd_10 : decode cX11_isEnd 10 = .ok (.invokestatic 151, 3) := by decide +kernel
theorem dX11_isEnd_13 : decode cX11_isEnd 13 = .ok (.invokevirtual 155, 3) := by decide +kernel
theorem dX11_isEnd_16 : decode cX11_isEnd 16 = .ok (.ireturn, 1) := by decide +kernel
set_option maxRecDepth 20000 in
theorem ggX11_isKept_X11_isJuror : GoodIn wsX11_isKept wsX11_isJuror := goodIn_r _ [5, 6, 7, 4, 8, 9, 10, 11, 12, 13, 14, 15, 16, 93, 94, 95, 96, 97, 98, 99, 100, 101, 102, 103, 104, 105, 106, 107, 108, 109, 110, 111, 112, 113, 114, 115, 116, 117, 118, 119, 120, 121, 122, 123, 124, 125, 126, 127, 128, 129, 130, 131, 132, 133, 134, 135, 136, 137, 138] (by decide +kernel) (by decide +kernel)
set_option maxRecDepth 20000 in
theorem gX11_isKept_X11_isJuror : GoodIn wsX11_isKept (wsV RX11 174 RX11 yX11_isJuror wsX11_isJuror) := goodIn_app (goodIn_of _ (by decide +kernel)) ggX11_isKept_X11_isJuror
set_option maxRecDepth 20000 in
theorem ggX11_isKept_X11_isLeans : GoodIn wsX11_isKept wsX11_isLeans := goodIn_r _ [20, 6, 7, 4, 8, 9, 10, 11, 12, 13, 14, 15, 16, 93, 94, 95, 96, 97, 98, 99, 100, 101, 102, 103, 104, 105, 106, 107, 108, 109, 110, 111, 112, 113, 114, 115, 116, 117, 118, 119, 120, 121, 122, 123, 124, 125, 126, 127, 128, 129, 130, 131, 132, 133, 134, 135, 136, 137, 138] (by decide +kernel) (by decide +kernel)
set_option maxRecDepth 20000 in
theorem gX11_isKept_X11_isLeans : GoodIn wsX11_isKept (wsV RX11 177 RX11 yX11_isLeans wsX11_isLeans) := goodIn_app (goodIn_of _ (by decide +kernel)) ggX11_isKept_X11_isLeans
set_option maxRecDepth 20000 in
theorem ggX11_isKept_X11_isLess : GoodIn wsX11_isKept wsX11_isLess := goodIn_r _ [24, 6, 7, 4, 8, 9, 10, 11, 12, 13, 14, 15, 16, 93, 94, 95, 96, 97, 98, 99, 100, 101, 102, 103, 104, 105, 106, 107, 108, 109, 110, 111, 112, 113, 114, 115, 116, 117, 118, 119, 120, 121, 122, 123, 124, 125, 126, 127, 128, 129, 130, 131, 132, 133, 134, 135, 136, 137, 138] (by decide +kernel) (by decide +kernel)
set_option maxRecDepth 20000 in
theorem gX11_isKept_X11_isLess : GoodIn wsX11_isKept (wsV RX11 180 RX11 yX11_isLess wsX11_isLess) := goodIn_app (goodIn_of _ (by decide +kernel)) ggX11_isKept_X11_isLess
set_option maxRecDepth 20000 in
theorem ggX11_isKept_X11_isStubborn : GoodIn wsX11_isKept wsX11_isStubborn := goodIn_r _ [28, 10, 29, 30, 6, 7, 4, 8, 9, 11, 12, 13, 14, 15, 16, 93, 94, 95, 96, 97, 98, 99, 100, 101, 102, 103, 104, 105, 106, 107, 108, 109, 110, 111, 112, 113, 114, 115, 116, 117, 118, 119, 120, 121, 122, 123, 124, 125, 126, 127, 128, 129, 130, 131, 132, 133, 134, 135, 136, 137, 138] (by decide +kernel) (by decide +kernel)
set_option maxRecDepth 20000 in
theorem gX11_isKept_X11_isStubborn : GoodIn wsX11_isKept (wsV RX11 183 RX11 yX11_isStubborn wsX11_isStubborn) := goodIn_app (goodIn_of _ (by decide +kernel)) ggX11_isKept_X11_isStubborn
set_option maxRecDepth 20000 in
theorem ggX11_isKept_X11_isPrice : GoodIn wsX11_isKept wsX11_isPrice := goodIn_r _ [34, 6, 7, 4, 8, 9, 10, 11, 12, 13, 14, 15, 16, 93, 94, 95, 96, 97, 98, 99, 100, 101, 102, 103, 104, 105, 106, 107, 108, 109, 110, 111, 112, 113, 114, 115, 116, 117, 118, 119, 120, 121, 122, 123, 124, 125, 126, 127, 128, 129, 130, 131, 132, 133, 134, 135, 136, 137, 138] (by decide +kernel) (by decide +kernel)
set_option maxRecDepth 20000 in
theorem gX11_isKept_X11_isPrice : GoodIn wsX11_isKept (wsV RX11 186 RX11 yX11_isPrice wsX11_isPrice) := goodIn_app (goodIn_of _ (by decide +kernel)) ggX11_isKept_X11_isPrice
set_option maxRecDepth 20000 in
theorem ggX11_isKept_X11_isSways : GoodIn wsX11_isKept wsX11_isSways := goodIn_r _ [38, 6, 7, 4, 8, 9, 10, 11, 12, 13, 14, 15, 16, 93, 94, 95, 96, 97, 98, 99, 100, 101, 102, 103, 104, 105, 106, 107, 108, 109, 110, 111, 112, 113, 114, 115, 116, 117, 118, 119, 120, 121, 122, 123, 124, 125, 126, 127, 128, 129, 130, 131, 132, 133, 134, 135, 136, 137, 138] (by decide +kernel) (by decide +kernel)
set_option maxRecDepth 20000 in
theorem gX11_isKept_X11_isSways : GoodIn wsX11_isKept (wsV RX11 189 RX11 yX11_isSways wsX11_isSways) := goodIn_app (goodIn_of _ (by decide +kernel)) ggX11_isKept_X11_isSways
set_option maxRecDepth 20000 in
theorem ggX11_isKept_X11_isProof : GoodIn wsX11_isKept wsX11_isProof := goodIn_r _ [42, 6, 7, 4, 8, 9, 10, 11, 12, 13, 14, 15, 16, 93, 94, 95, 96, 97, 98, 99, 100, 101, 102, 103, 104, 105, 106, 107, 108, 109, 110, 111, 112, 113, 114, 115, 116, 117, 118, 119, 120, 121, 122, 123, 124, 125, 126, 127, 128, 129, 130, 131, 132, 133, 134, 135, 136, 137, 138] (by decide +kernel) (by decide +kernel)
set_option maxRecDepth 20000 in
theorem gX11_isKept_X11_isProof : GoodIn wsX11_isKept (wsV RX11 192 RX11 yX11_isProof wsX11_isProof) := goodIn_app (goodIn_of _ (by decide +kernel)) ggX11_isKept_X11_isProof
set_option maxRecDepth 20000 in
theorem ggX11_isKept_X11_isFollows : GoodIn wsX11_isKept wsX11_isFollows := goodIn_r _ [46, 10, 47, 6, 7, 4, 8, 9, 11, 12, 13, 14, 15, 16, 93, 94, 95, 96, 97, 98, 99, 100, 101, 102, 103, 104, 105, 106, 107, 108, 109, 110, 111, 112, 113, 114, 115, 116, 117, 118, 119, 120, 121, 122, 123, 124, 125, 126, 127, 128, 129, 130, 131, 132, 133, 134, 135, 136, 137, 138] (by decide +kernel) (by decide +kernel)
set_option maxRecDepth 20000 in
theorem gX11_isKept_X11_isFollows : GoodIn wsX11_isKept (wsV RX11 195 RX11 yX11_isFollows wsX11_isFollows) := goodIn_app (goodIn_of _ (by decide +kernel)) ggX11_isKept_X11_isFollows
set_option maxRecDepth 20000 in
theorem ggX11_isKept_X11_isGuilty : GoodIn wsX11_isKept wsX11_isGuilty := goodIn_r _ [51, 6, 7, 4, 8, 9, 10, 11, 12, 13, 14, 15, 16, 93, 94, 95, 96, 97, 98, 99, 100, 101, 102, 103, 104, 105, 106, 107, 108, 109, 110, 111, 112, 113, 114, 115, 116, 117, 118, 119, 120, 121, 122, 123, 124, 125, 126, 127, 128, 129, 130, 131, 132, 133, 134, 135, 136, 137, 138] (by decide +kernel) (by decide +kernel)
set_option maxRecDepth 20000 in
theorem gX11_isKept_X11_isGuilty : GoodIn wsX11_isKept (wsV RX11 198 RX11 yX11_isGuilty wsX11_isGuilty) := goodIn_app (goodIn_of _ (by decide +kernel)) ggX11_isKept_X11_isGuilty
set_option maxRecDepth 20000 in
theorem ggX11_isKept_X11_isFree : GoodIn wsX11_isKept wsX11_isFree := goodIn_r _ [55, 6, 7, 4, 8, 9, 10, 11, 12, 13, 14, 15, 16, 93, 94, 95, 96, 97, 98, 99, 100, 101, 102, 103, 104, 105, 106, 107, 108, 109, 110, 111, 112, 113, 114, 115, 116, 117, 118, 119, 120, 121, 122, 123, 124, 125, 126, 127, 128, 129, 130, 131, 132, 133, 134, 135, 136, 137, 138] (by decide +kernel) (by decide +kernel)
set_option maxRecDepth 20000 in
theorem gX11_isKept_X11_isFree : GoodIn wsX11_isKept (wsV RX11 201 RX11 yX11_isFree wsX11_isFree) := goodIn_app (goodIn_of _ (by decide +kernel)) ggX11_isKept_X11_isFree
set_option maxRecDepth 20000 in
theorem ggX11_isKept_X11_isOn : GoodIn wsX11_isKept wsX11_isOn := goodIn_r _ [59, 6, 7, 4, 8, 9, 10, 11, 12, 13, 14, 15, 16, 93, 94, 95, 96, 97, 98, 99, 100, 101, 102, 103, 104, 105, 106, 107, 108, 109, 110, 111, 112, 113, 114, 115, 116, 117, 118, 119, 120, 121, 122, 123, 124, 125, 126, 127, 128, 129, 130, 131, 132, 133, 134, 135, 136, 137, 138] (by decide +kernel) (by decide +kernel)
set_option maxRecDepth 20000 in
theorem gX11_isKept_X11_isOn : GoodIn wsX11_isKept (wsV RX11 204 RX11 yX11_isOn wsX11_isOn) := goodIn_app (goodIn_of _ (by decide +kernel)) ggX11_isKept_X11_isOn
set_option maxRecDepth 20000 in
theorem ggX11_isKept_X11_isHunger : GoodIn wsX11_isKept wsX11_isHunger := goodIn_r _ [63, 6, 7, 4, 8, 9, 10, 11, 12, 13, 14, 15, 16, 93, 94, 95, 96, 97, 98, 99, 100, 101, 102, 103, 104, 105, 106, 107, 108, 109, 110, 111, 112, 113, 114, 115, 116, 117, 118, 119, 120, 121, 122, 123, 124, 125, 126, 127, 128, 129, 130, 131, 132, 133, 134, 135, 136, 137, 138] (by decide +kernel) (by decide +kernel)
set_option maxRecDepth 20000 in
theorem gX11_isKept_X11_isHunger : GoodIn wsX11_isKept (wsV RX11 207 RX11 yX11_isHunger wsX11_isHunger) := goodIn_app (goodIn_of _ (by decide +kernel)) ggX11_isKept_X11_isHunger
set_option maxRecDepth 20000 in
theorem ggX11_isKept_X11_isLaw : GoodIn wsX11_isKept wsX11_isLaw := goodIn_r _ [67, 6, 7, 4, 8, 9, 10, 11, 12, 13, 14, 15, 16, 93, 94, 95, 96, 97, 98, 99, 100, 101, 102, 103, 104, 105, 106, 107, 108, 109, 110, 111, 112, 113, 114, 115, 116, 117, 118, 119, 120, 121, 122, 123, 124, 125, 126, 127, 128, 129, 130, 131, 132, 133, 134, 135, 136, 137, 138] (by decide +kernel) (by decide +kernel)
set_option maxRecDepth 20000 in
theorem gX11_isKept_X11_isLaw : GoodIn wsX11_isKept (wsV RX11 210 RX11 yX11_isLaw wsX11_isLaw) := goodIn_app (goodIn_of _ (by decide +kernel)) ggX11_isKept_X11_isLaw
set_option maxRecDepth 20000 in
theorem ggX11_isKept_X11_lawWord : GoodIn wsX11_isKept wsX11_lawWord := goodIn_r _ [71, 6, 7, 4, 8, 9, 10, 11, 12, 13, 14, 15, 16, 93, 94, 95, 96, 97, 98, 99, 100, 101, 102, 103, 104, 105, 106, 107, 108, 109, 110, 111, 112, 113, 114, 115, 116, 117, 118, 119, 120, 121, 122, 123, 124, 125, 126, 127, 128, 129, 130, 131, 132, 133, 134, 135, 136, 137, 138] (by decide +kernel) (by decide +kernel)
set_option maxRecDepth 20000 in
theorem gX11_isKept_X11_lawWord : GoodIn wsX11_isKept (wsV RX11 213 RX11 yX11_lawWord wsX11_lawWord) := goodIn_app (goodIn_of _ (by decide +kernel)) ggX11_isKept_X11_lawWord
set_option maxRecDepth 20000 in
theorem ggX11_isKept_X11_stepWord : GoodIn wsX11_isKept wsX11_stepWord := goodIn_r _ [75, 10, 76, 6, 7, 4, 8, 9, 11, 12, 13, 14, 15, 16, 93, 94, 95, 96, 97, 98, 99, 100, 101, 102, 103, 104, 105, 106, 107, 108, 109, 110, 111, 112, 113, 114, 115, 116, 117, 118, 119, 120, 121, 122, 123, 124, 125, 126, 127, 128, 129, 130, 131, 132, 133, 134, 135, 136, 137, 138] (by decide +kernel) (by decide +kernel)
set_option maxRecDepth 20000 in
theorem gX11_isKept_X11_stepWord : GoodIn wsX11_isKept (wsV RX11 217 RX11 yX11_stepWord wsX11_stepWord) := goodIn_app (goodIn_of _ (by decide +kernel)) ggX11_isKept_X11_stepWord
set_option maxRecDepth 20000 in
theorem ggX11_isKept_X11_testWord : GoodIn wsX11_isKept wsX11_testWord := goodIn_r _ [80, 6, 7, 4, 8, 9, 10, 11, 12, 13, 14, 15, 16, 81, 82, 83, 84, 29, 85, 86, 87, 88, 93, 94, 95, 96, 97, 98, 99, 100, 101, 102, 103, 104, 105, 106, 107, 108, 109, 110, 111, 112, 113, 114, 115, 116, 117, 118, 119, 120, 121, 122, 123, 124, 125, 126, 127, 128, 129, 130, 131, 132, 133, 134, 135, 136, 137, 138] (by decide +kernel) (by decide +kernel)
set_option maxRecDepth 20000 in
theorem gX11_isKept_X11_testWord : GoodIn wsX11_isKept (wsV RX11 220 RX11 yX11_testWord wsX11_testWord) := goodIn_app (goodIn_of _ (by decide +kernel)) ggX11_isKept_X11_testWord
set_option maxRecDepth 20000 in
theorem ggX11_isKept_X11_isEnd : GoodIn wsX11_isKept wsX11_isEnd := goodIn_r _ [92, 6, 7, 4, 8, 9, 10, 11, 12, 13, 14, 15, 16, 93, 94, 95, 96, 97, 98, 99, 100, 101, 102, 103, 104, 105, 106, 107, 108, 109, 110, 111, 112, 113, 114, 115, 116, 117, 118, 119, 120, 121, 122, 123, 124, 125, 126, 127, 128, 129, 130, 131, 132, 133, 134, 135, 136, 137, 138] (by decide +kernel) (by decide +kernel)
set_option maxRecDepth 20000 in
theorem gX11_isKept_X11_isEnd : GoodIn wsX11_isKept (wsV RX11 223 RX11 yX11_isEnd wsX11_isEnd) := goodIn_app (goodIn_of _ (by decide +kernel)) ggX11_isKept_X11_isEnd
theorem dX11_isKept_0 : decode cX11_isKept 0 = .ok (.aload_n 0, 1) := by decide +kernel
theorem dX11_isKept_1 : decode cX11_isKept 1 = .ok (.invokevirtual 174, 3) := by decide +kernel
theorem dX11_isKept_4 : decode cX11_isKept 4 = .ok (.ifCond .ne 73, 3) := by decide +kernel
theorem dX11_isKept_7 : decode cX11_isKept 7 = .ok (.aload_n 0, 1) := by decide +kernel
theorem dX11_isKept_8 : decode cX11_isKept 8 = .ok (.invokevirtual 177, 3) := by decide +kernel
theorem dX11_isKept_11 : decode cX11_isKept 11 = .ok (.ifCond .ne 66, 3) := by decide +kernel
theorem dX11_isKept_14 : decode cX11_isKept 14 = .ok (.aload_n 0, 1) := by decide +kernel
theorem dX11_isKept_15 : decode cX11_isKept 15 = .ok (.invokevirtual 180, 3) := by decide +kernel
theorem dX11_isKept_18 : decode cX11_isKept 18 = .ok (.ifCond .ne 59, 3) := by decide +kernel
theorem dX11_isKept_21 : decode cX11_isKept 21 = .ok (.aload_n 0, 1) := by decide +kernel
theorem dX11_isKept_22 : decode cX11_isKept 22 = .ok (.invokevirtual 183, 3) := by decide +kernel
theorem dX11_isKept_25 : decode cX11_isKept 25 = .ok (.ifCond .ne 52, 3) := by decide +kernel
theorem dX11_isKept_28 : decode cX11_isKept 28 = .ok (.aload_n 0, 1) := by decide +kernel
theorem dX11_isKept_29 : decode cX11_isKept 29 = .ok (.invokevirtual 186, 3) := by decide +kernel
theorem dX11_isKept_32 : decode cX11_isKept 32 = .ok (.ifCond .ne 45, 3) := by decide +kernel
theorem dX11_isKept_35 : decode cX11_isKept 35 = .ok (.aload_n 0, 1) := by decide +kernel
theorem dX11_isKept_36 : decode cX11_isKept 36 = .ok (.invokevirtual 189, 3) := by decide +kernel
theorem dX11_isKept_39 : decode cX11_isKept 39 = .ok (.ifCond .ne 38, 3) := by decide +kernel
theorem dX11_isKept_42 : decode cX11_isKept 42 = .ok (.aload_n 0, 1) := by decide +kernel
theorem dX11_isKept_43 : decode cX11_isKept 43 = .ok (.invokevirtual 192, 3) := by decide +kernel
theorem dX11_isKept_46 : decode cX11_isKept 46 = .ok (.ifCond .ne 31, 3) := by decide +kernel
theorem dX11_isKept_49 : decode cX11_isKept 49 = .ok (.aload_n 0, 1) := by decide +kernel
theorem dX11_isKept_50 : decode cX11_isKept 50 = .ok (.invokevirtual 195, 3) := by decide +kernel
theorem dX11_isKept_53 : decode cX11_isKept 53 = .ok (.ifCond .ne 24, 3) := by decide +kernel
theorem dX11_isKept_56 : decode cX11_isKept 56 = .ok (.aload_n 0, 1) := by decide +kernel
theorem dX11_isKept_57 : decode cX11_isKept 57 = .ok (.invokevirtual 198, 3) := by decide +kernel
theorem dX11_isKept_60 : decode cX11_isKept 60 = .ok (.ifCond .ne 17, 3) := by decide +kernel
theorem dX11_isKept_63 : decode cX11_isKept 63 = .ok (.aload_n 0, 1) := by decide +kernel
theorem dX11_isKept_64 : decode cX11_isKept 64 = .ok (.invokevirtual 201, 3) := by decide +kernel
theorem dX11_isKept_67 : decode cX11_isKept 67 = .ok (.ifCond .ne 10, 3) := by decide +kernel
theorem dX11_isKept_70 : decode cX11_isKept 70 = .ok (.aload_n 0, 1) := by decide +kernel
theorem dX11_isKept_71 : decode cX11_isKept 71 = .ok (.invokevirtual 204, 3) := by decide +kernel
theorem dX11_isKept_74 : decode cX11_isKept 74 = .ok (.ifCond .eq 5, 3) := by decide +kernel
theorem dX11_isKept_77 : decode cX11_isKept 77 = .ok (.iconst 1, 1) := by decide +kernel
theorem dX11_isKept_78 : decode cX11_isKept 78 = .ok (.ireturn, 1) := by decide +kernel
theorem dX11_isKept_79 : decode cX11_isKept 79 = .ok (.aload_n 0, 1) := by decide +kernel
theorem dX11_isKept_80 : decode cX11_isKept 80 = .ok (.invokevirtual 207, 3) := by decide +kernel
theorem dX11_isKept_83 : decode cX11_isKept 83 = .ok (.ifCond .ne 38, 3) := by decide +kernel
theorem dX11_isKept_86 : decode cX11_isKept 86 = .ok (.aload_n 0, 1) := by decide +kernel
theorem dX11_isKept_87 : decode cX11_isKept 87 = .ok (.invokevirtual 210, 3) := by decide +kernel
theorem dX11_isKept_90 : decode cX11_isKept 90 = .ok (.ifCond .ne 31, 3) := by decide +kernel
theorem dX11_isKept_93 : decode cX11_isKept 93 = .ok (.aload_n 0, 1) := by decide +kernel
theorem dX11_isKept_94 : decode cX11_isKept 94 = .ok (.invokevirtual 213, 3) := by decide +kernel
theorem dX11_isKept_97 : decode cX11_isKept 97 = .ok (.ifCond .ge 24, 3) := by decide +kernel
theorem dX11_isKept_100 : decode cX11_isKept 100 = .ok (.aload_n 0, 1) := by decide +kernel
theorem dX11_isKept_101 : decode cX11_isKept 101 = .ok (.invokevirtual 217, 3) := by decide +kernel
theorem dX11_isKept_104 : decode cX11_isKept 104 = .ok (.ifCond .ge 17, 3) := by decide +kernel
theorem dX11_isKept_107 : decode cX11_isKept 107 = .ok (.aload_n 0, 1) := by decide +kernel
theorem dX11_isKept_108 : decode cX11_isKept 108 = .ok (.invokevirtual 220, 3) := by decide +kernel
theorem dX11_isKept_111 : decode cX11_isKept 111 = .ok (.ifCond .ge 10, 3) := by decide +kernel
theorem dX11_isKept_114 : decode cX11_isKept 114 = .ok (.aload_n 0, 1) := by decide +kernel
theorem dX11_isKept_115 : decode cX11_isKept 115 = .ok (.invokevirtual 223, 3) := by decide +kernel
theorem dX11_isKept_118 : decode cX11_isKept 118 = .ok (.ifCond .eq 7, 3) := by decide +kernel
theorem dX11_isKept_121 : decode cX11_isKept 121 = .ok (.iconst 1, 1) := by decide +kernel
theorem dX11_isKept_122 : decode cX11_isKept 122 = .ok (.goto 4, 3) := by decide +kernel
theorem dX11_isKept_125 : decode cX11_isKept 125 = .ok (.iconst 0, 1) := by decide +kernel
theorem dX11_isKept_126 : decode cX11_isKept 126 = .ok (.ireturn, 1) := by decide +kernel
set_option maxRecDepth 20000 in
theorem ggX11_isName_X11_isKept : GoodIn wsX11_isName wsX11_isKept := goodIn_r _ [7, 8, 9, 10, 6, 11, 12, 13, 14, 15, 16, 17, 18, 19, 20, 1, 21, 22, 23, 24, 25, 26, 27, 28, 29, 30, 31, 32, 33, 34, 35, 36, 37, 38, 39, 40, 41, 42, 43, 44, 45, 46, 47, 48, 49, 50, 51, 52, 53, 54, 55, 56, 57, 58, 59, 60, 61, 62, 63, 64, 65, 66, 67, 68, 69, 70, 71, 72, 73, 74, 75, 76, 77, 78, 79, 80, 81, 82, 83, 84, 85, 86, 87, 88, 89, 90, 91, 92, 93, 94, 95, 96, 97, 98, 99, 100, 101, 102, 103, 104, 105, 106, 107, 108, 109, 110, 111, 112, 113, 114, 115, 116, 117, 118, 119, 120, 121, 122, 123, 124, 125, 126, 127, 128, 129, 130, 131, 132, 133, 134, 135, 136, 137, 138, 139, 140, 141, 142, 143] (by decide +kernel) (by decide +kernel)
set_option maxRecDepth 20000 in
theorem gX11_isName_X11_isKept : GoodIn wsX11_isName (wsV RX11 226 RX11 yX11_isKept wsX11_isKept) := goodIn_app (goodIn_of _ (by decide +kernel)) ggX11_isName_X11_isKept
theorem dX11_isName_0 : decode cX11_isName 0 = .ok (.aload_n 0, 1) := by decide +kernel
theorem dX11_isName_1 : decode cX11_isName 1 = .ok (.getfield 126, 3) := by decide +kernel
theorem dX11_isName_4 : decode cX11_isName 4 = .ok (.iconst 1, 1) := by decide +kernel
theorem dX11_isName_5 : decode cX11_isName 5 = .ok (.if_icmp .ne 23, 3) := by decide +kernel
theorem dX11_isName_8 : decode cX11_isName 8 = .ok (.aload_n 0, 1) := by decide +kernel
theorem dX11_isName_9 : decode cX11_isName 9 = .ok (.getfield 139, 3) := by decide +kernel
theorem dX11_isName_12 : decode cX11_isName 12 = .ok (.bipush 8, 2) := by decide +kernel
theorem dX11_isName_14 : decode cX11_isName 14 = .ok (.if_icmp .gt 14, 3) := by decide +kernel
theorem dX11_isName_17 : decode cX11_isName 17 = .ok (.aload_n 0, 1) := by decide +kernel
theorem dX11_isName_18 : decode cX11_isName 18 = .ok (.invokevirtual 226, 3) := by decide +kernel
theorem dX11_isName_21 : decode cX11_isName 21 = .ok (.ifCond .ne 7, 3) := by decide +kernel
theorem dX11_isName_24 : decode cX11_isName 24 = .ok (.iconst 1, 1) := by decide +kernel
theorem dX11_isName_25 : decode cX11_isName 25 = .ok (.goto 4, 3) := by decide +kernel
theorem dX11_isName_28 : decode cX11_isName 28 = .ok (.iconst 0, 1) := by decide +kernel
theorem dX11_isName_29 : decode cX11_isName 29 = .ok (.ireturn, 1) := by decide +kernel
theorem dX11_fail_0 : decode cX11_fail 0 = .ok (.aload_n 0, 1) := by decide +kernel
theorem dX11_fail_1 : decode cX11_fail 1 = .ok (.getfield 229, 3) := by decide +kernel
theorem dX11_fail_4 : decode cX11_fail 4 = .ok (.ifCond .le 4, 3) := by decide +kernel
theorem dX11_fail_7 : decode cX11_fail 7 = .ok (.return_, 1) := by decide +kernel
theorem dX11_fail_8 : decode cX11_fail 8 = .ok (.aload_n 0, 1) := by decide +kernel
theorem dX11_fail_9 : decode cX11_fail 9 = .ok (.iload_n 1, 1) := by decide +kernel
theorem dX11_fail_10 : decode cX11_fail 10 = .ok (.putfield 229, 3) := by decide +kernel
theorem dX11_fail_13 : decode cX11_fail 13 = .ok (.aload_n 0, 1) := by decide +kernel
theorem dX11_fail_14 : decode cX11_fail 14 = .ok (.iload_n 2, 1) := by decide +kernel
theorem dX11_fail_15 : decode cX11_fail 15 = .ok (.putfield 232, 3) := by decide +kernel
theorem dX11_fail_18 : decode cX11_fail 18 = .ok (.return_, 1) := by decide +kernel
set_option maxRecDepth 20000 in
theorem ggX11_wrong_X11_fail : GoodIn wsX11_wrong wsX11_fail := goodIn_r _ [7, 8, 9, 10, 11, 12, 13, 14, 15, 16, 17, 18, 19, 20, 21, 22, 23, 24, 25, 26, 27, 28, 29, 30, 31, 32, 33, 34, 35, 36, 37, 38, 39, 40, 41, 42, 43, 44, 45, 46, 47, 48, 49, 50, 51, 52, 53, 54, 55] (by decide +kernel) (by decide +kernel)
set_option maxRecDepth 20000 in
theorem gX11_wrong_X11_fail : GoodIn wsX11_wrong (wsV RX11 235 RX11 yX11_fail wsX11_fail) := goodIn_app (goodIn_of _ (by decide +kernel)) ggX11_wrong_X11_fail
theorem dX11_wrong_0 : decode cX11_wrong 0 = .ok (.aload_n 0, 1) := by decide +kernel
theorem dX11_wrong_1 : decode cX11_wrong 1 = .ok (.aload_n 0, 1) := by decide +kernel
theorem dX11_wrong_2 : decode cX11_wrong 2 = .ok (.getfield 126, 3) := by decide +kernel
theorem dX11_wrong_5 : decode cX11_wrong 5 = .ok (.iconst 4, 1) := by decide +kernel
theorem dX11_wrong_6 : decode cX11_wrong 6 = .ok (.if_icmp .ne 7, 3) := by decide +kernel
theorem dX11_wrong_9 : decode cX11_wrong 9 = .ok (.iconst 1, 1) := by decide +kernel
theorem dX11_wrong_10 : decode cX11_wrong 10 = .ok (.goto 4, 3) := by decide +kernel
theorem dX11_wrong_13 : decode cX11_wrong 13 = .ok (.iconst 2, 1) := by decide +kernel
theorem dX11_wrong_14 : decode cX11_wrong 14 = .ok (.aload_n 0, 1) := by decide +kernel
theorem dX11_wrong_15 : decode cX11_wrong 15 = .ok (.getfield 120, 3) := by decide +kernel
theorem dX11_wrong_18 : decode cX11_wrong 18 = .ok (.invokevirtual 235, 3) := by decide +kernel
theorem dX11_wrong_21 : decode cX11_wrong 21 = .ok (.return_, 1) := by decide +kernel
set_option maxRecDepth 20000 in
theorem ggX11_must_X11_next : GoodIn wsX11_must wsX11_next := goodIn_r _ [6, 7, 8, 9, 10, 11, 12, 13, 14, 15, 16, 17, 18, 19, 5, 20, 21, 22, 23, 24, 25, 26, 27, 28, 29, 30, 31, 41, 42, 43, 44, 45, 46, 47, 48, 49, 50, 51, 52, 53, 54, 55, 56, 57, 58, 59, 60, 61, 62, 63, 64, 65, 66, 67, 68, 69, 70, 71, 72, 73, 74, 75, 76, 77, 78, 79, 80, 81, 82, 83, 84, 85, 86] (by decide +kernel) (by decide +kernel)
set_option maxRecDepth 20000 in
theorem gX11_must_X11_next : GoodIn wsX11_must (wsV RX11 239 RX11 yX11_next wsX11_next) := goodIn_app (goodIn_of _ (by decide +kernel)) ggX11_must_X11_next
set_option maxRecDepth 20000 in
theorem ggX11_must_X11_wrong : GoodIn wsX11_must wsX11_wrong := goodIn_r _ [35, 10, 8, 36, 37, 38, 5, 39, 1, 40, 41, 42, 43, 44, 45, 46, 47, 48, 49, 50, 51, 52, 53, 54, 55, 56, 57, 58, 59, 60, 61, 62, 63, 64, 65, 66, 67, 68, 69, 70, 71, 72, 73, 74, 75, 76, 77, 78, 79, 80, 81, 82, 83, 84, 85, 86] (by decide +kernel) (by decide +kernel)
set_option maxRecDepth 20000 in
theorem gX11_must_X11_wrong : GoodIn wsX11_must (wsV RX11 242 RX11 yX11_wrong wsX11_wrong) := goodIn_app (goodIn_of _ (by decide +kernel)) ggX11_must_X11_wrong
theorem dX11_must_0 : decode cX11_must 0 = .ok (.aload_n 0, 1) := by decide +kernel
theorem dX11_must_1 : decode cX11_must 1 = .ok (.getfield 229, 3) := by decide +kernel
theorem dX11_must_4 : decode cX11_must 4 = .ok (.ifCond .le 4, 3) := by decide +kernel
theorem dX11_must_7 : decode cX11_must 7 = .ok (.return_, 1) := by decide +kernel
theorem dX11_must_8 : decode cX11_must 8 = .ok (.iload_n 1, 1) := by decide +kernel
theorem dX11_must_9 : decode cX11_must 9 = .ok (.ifCond .eq 10, 3) := by decide +kernel
theorem dX11_must_12 : decode cX11_must 12 = .ok (.aload_n 0, 1) := by decide +kernel
theorem dX11_must_13 : decode cX11_must 13 = .ok (.invokevirtual 239, 3) := by decide +kernel
theorem dX11_must_16 : decode cX11_must 16 = .ok (.goto 7, 3) := by decide +kernel
theorem dX11_must_19 : decode cX11_must 19 = .ok (.aload_n 0, 1) := by decide +kernel
theorem dX11_must_20 : decode cX11_must 20 = .ok (.invokevirtual 242, 3) := by decide +kernel
theorem dX11_must_23 : decode cX11_must 23 = .ok (.return_, 1) := by decide +kernel
set_option maxRecDepth 20000 in
theorem ggX11_count_X11_wrong : GoodIn wsX11_count wsX11_wrong := goodIn_r _ [9, 2, 4, 10, 11, 12, 8, 13, 1, 14, 44, 45, 46, 47, 48, 49, 50, 51, 52, 53, 54, 55, 56, 57, 58, 59, 60, 61, 62, 63, 64, 65, 66, 67, 68, 69, 70, 71, 72, 73, 74, 75, 76, 77, 78, 79, 80, 81, 82, 83, 84, 85, 86, 87, 88, 89] (by decide +kernel) (by decide +kernel)
set_option maxRecDepth 20000 in
theorem gX11_count_X11_wrong : GoodIn wsX11_count (wsV RX11 242 RX11 yX11_wrong wsX11_wrong) := goodIn_app (goodIn_of _ (by decide +kernel)) ggX11_count_X11_wrong
set_option maxRecDepth 20000 in
theorem ggX11_count_X11_isIn : GoodIn wsX11_count wsX11_isIn := goodIn_r _ [17] (by decide +kernel) (by decide +kernel)
set_option maxRecDepth 20000 in
theorem gX11_count_X11_isIn : GoodIn wsX11_count (va_wsS RX11 106 yX11_isIn wsX11_isIn) := goodIn_app (goodIn_of _ (by decide +kernel)) ggX11_count_X11_isIn
set_option maxRecDepth 20000 in
theorem ggX11_count_X11_fail : GoodIn wsX11_count wsX11_fail := goodIn_r _ [13, 1, 14, 44, 45, 46, 47, 48, 49, 50, 51, 52, 53, 54, 55, 56, 57, 58, 59, 60, 61, 62, 63, 64, 65, 66, 67, 68, 69, 70, 71, 72, 73, 74, 75, 76, 77, 78, 79, 80, 81, 82, 83, 84, 85, 86, 87, 88, 89] (by decide +kernel) (by decide +kernel)
set_option maxRecDepth 20000 in
theorem gX11_count_X11_fail : GoodIn wsX11_count (wsV RX11 235 RX11 yX11_fail wsX11_fail) := goodIn_app (goodIn_of _ (by decide +kernel)) ggX11_count_X11_fail
set_option maxRecDepth 20000 in
theorem ggX11_count_X11_next : GoodIn wsX11_count wsX11_next := goodIn_r _ [21, 22, 4, 23, 2, 24, 25, 26, 27, 28, 3, 29, 30, 31, 8, 32, 33, 34, 35, 36, 37, 38, 39, 40, 41, 42, 43, 44, 45, 46, 47, 48, 49, 50, 51, 52, 53, 54, 55, 56, 57, 58, 59, 60, 61, 62, 63, 64, 65, 66, 67, 68, 69, 70, 71, 72, 73, 74, 75, 76, 77, 78, 79, 80, 81, 82, 83, 84, 85, 86, 87, 88, 89] (by decide +kernel) (by decide +kernel)
set_option maxRecDepth 20000 in
theorem gX11_count_X11_next : GoodIn wsX11_count (wsV RX11 239 RX11 yX11_next wsX11_next) := goodIn_app (goodIn_of _ (by decide +kernel)) ggX11_count_X11_next
theorem dX11_count_0 : decode cX11_count 0 = .ok (.aload_n 0, 1) := by decide +kernel
theorem dX11_count_1 : decode cX11_count 1 = .ok (.getfield 229, 3) := by decide +kernel
theorem dX11_count_4 : decode cX11_count 4 = .ok (.ifCond .ne 15, 3) := by decide +kernel
theorem dX11_count_7 : decode cX11_count 7 = .ok (.aload_n 0, 1) := by decide +kernel
theorem dX11_count_8 : decode cX11_count 8 = .ok (.getfield 126, 3) := by decide +kernel
theorem dX11_count_11 : decode cX11_count 11 = .ok (.iconst 2, 1) := by decide +kernel
theorem dX11_count_12 : decode cX11_count 12 = .ok (.if_icmp .eq 7, 3) := by decide +kernel
theorem dX11_count_15 : decode cX11_count 15 = .ok (.aload_n 0, 1) := by decide +kernel
theorem dX11_count_16 : decode cX11_count 16 = .ok (.invokevirtual 242, 3) := by decide +kernel
theorem dX11_count_19 : decode cX11_count 19 = .ok (.aload_n 0, 1) := by decide +kernel
theorem dX11_count_20 : decode cX11_count 20 = .ok (.getfield 229, 3) := by decide +kernel
theorem dX11_count_23 : decode cX11_count 23 = .ok (.ifCond .ne 27, 3) := by decide +kernel
theorem dX11_count_26 : decode cX11_count 26 = .ok (.aload_n 0, 1) := by decide +kernel
theorem dX11_count_27 : decode cX11_count 27 = .ok (.getfield 145, 3) := by decide +kernel
theorem dX11_count_30 : decode cX11_count 30 = .ok (.i2l, 1) := by decide +kernel
theorem dX11_count_31 : decode cX11_count 31 = .ok (.iload_n 1, 1) := by decide +kernel
theorem dX11_count_32 : decode cX11_count 32 = .ok (.i2l, 1) := by decide +kernel
theorem dX11_count_33 : decode cX11_count 33 = .ok (.iload_n 2, 1) := by decide +kernel
theorem dX11_count_34 : decode cX11_count 34 = .ok (.i2l, 1) := by decide +kernel
theorem dX11_count_35 : decode cX11_count 35 = .ok (.invokestatic 106, 3) := by decide +kernel
theorem dX11_count_38 : decode cX11_count 38 = .ok (.ifCond .ne 12, 3) := by decide +kernel
theorem dX11_count_41 : decode cX11_count 41 = .ok (.aload_n 0, 1) := by decide +kernel
theorem dX11_count_42 : decode cX11_count 42 = .ok (.iconst 4, 1) := by decide +kernel
theorem dX11_count_43 : decode cX11_count 43 = .ok (.aload_n 0, 1) := by decide +kernel
theorem dX11_count_44 : decode cX11_count 44 = .ok (.getfield 120, 3) := by decide +kernel
theorem dX11_count_47 : decode cX11_count 47 = .ok (.invokevirtual 235, 3) := by decide +kernel
theorem dX11_count_50 : decode cX11_count 50 = .ok (.aload_n 0, 1) := by decide +kernel
theorem dX11_count_51 : decode cX11_count 51 = .ok (.getfield 229, 3) := by decide +kernel
theorem dX11_count_54 : decode cX11_count 54 = .ok (.ifCond .le 5, 3) := by decide +kernel
theorem dX11_count_57 : decode cX11_count 57 = .ok (.iconst 0, 1) := by decide +kernel
theorem dX11_count_58 : decode cX11_count 58 = .ok (.ireturn, 1) := by decide +kernel
theorem dX11_count_59 : decode cX11_count 59 = .ok (.aload_n 0, 1) := by decide +kernel
theorem dX11_count_60 : decode cX11_count 60 = .ok (.getfield 145, 3) := by decide +kernel
theorem dX11_count_63 : decode cX11_count 63 = .ok (.istore_n 3, 1) := by decide +kernel
theorem dX11_count_64 : decode cX11_count 64 = .ok (.aload_n 0, 1) := by decide +kernel
theorem dX11_count_65 : decode cX11_count 65 = .ok (.invokevirtual 239, 3) := by decide +kernel
theorem dX11_count_68 : decode cX11_count 68 = .ok (.iload_n 3, 1) := by decide +kernel
theorem dX11_count_69 : decode cX11_count 69 = .ok (.ireturn, 1) := by decide +kernel
set_option maxRecDepth 20000 in
theorem ggX11_signed_X11_isLess : GoodIn wsX11_signed wsX11_isLess := goodIn_r _ [6, 7, 8, 5, 9, 10, 11, 12, 13, 14, 15, 16, 17, 59, 60, 61, 62, 63, 64, 65, 66, 67, 68, 69, 70, 71, 72, 73, 74, 75, 76, 77, 78, 79, 80, 81, 82, 83, 84, 85, 86, 87, 88, 89, 90, 91, 92, 93, 94, 95, 96, 97, 98, 99, 100, 101, 102, 103, 104] (by decide +kernel) (by decide +kernel)
set_option maxRecDepth 20000 in
theorem gX11_signed_X11_isLess : GoodIn wsX11_signed (wsV RX11 180 RX11 yX11_isLess wsX11_isLess) := goodIn_app (goodIn_of _ (by decide +kernel)) ggX11_signed_X11_isLess
set_option maxRecDepth 20000 in
theorem ggX11_signed_X11_next : GoodIn wsX11_signed wsX11_next := goodIn_r _ [21, 22, 23, 24, 16, 17, 11, 10, 25, 26, 27, 28, 29, 30, 5, 31, 32, 33, 34, 35, 36, 37, 38, 39, 40, 41, 42, 59, 60, 61, 62, 63, 64, 65, 66, 67, 68, 69, 70, 71, 72, 73, 74, 75, 76, 77, 78, 79, 80, 81, 82, 83, 84, 85, 86, 87, 88, 89, 90, 91, 92, 93, 94, 95, 96, 97, 98, 99, 100, 101, 102, 103, 104] (by decide +kernel) (by decide +kernel)
set_option maxRecDepth 20000 in
theorem gX11_signed_X11_next : GoodIn wsX11_signed (wsV RX11 239 RX11 yX11_next wsX11_next) := goodIn_app (goodIn_of _ (by decide +kernel)) ggX11_signed_X11_next
set_option maxRecDepth 20000 in
theorem ggX11_signed_X11_count : GoodIn wsX11_signed wsX11_count := goodIn_r _ [46, 1, 16, 27, 23, 47, 48, 49, 5, 50, 51, 52, 53, 54, 55, 56, 57, 58, 18, 19, 20, 21, 22, 24, 17, 11, 10, 25, 26, 28, 29, 30, 31, 32, 33, 34, 35, 36, 37, 38, 39, 40, 41, 42, 59, 60, 61, 62, 63, 64, 65, 66, 67, 68, 69, 70, 71, 72, 73, 74, 75, 76, 77, 78, 79, 80, 81, 82, 83, 84, 85, 86, 87, 88, 89, 90, 91, 92, 93, 94, 95, 96, 97, 98, 99, 100, 101, 102, 103, 104] (by decide +kernel) (by decide +kernel)
set_option maxRecDepth 20000 in
theorem gX11_signed_X11_count : GoodIn wsX11_signed (wsV RX11 245 RX11 yX11_count wsX11_count) := goodIn_app (goodIn_of _ (by decide +kernel)) ggX11_signed_X11_count
theorem dX11_signed_0 : decode cX11_signed 0 = .ok (.aload_n 0, 1) := by decide +kernel
theorem dX11_signed_1 : decode cX11_signed 1 = .ok (.getfield 229, 3) := by decide +kernel
theorem dX11_signed_4 : decode cX11_signed 4 = .ok (.ifCond .ne 14, 3) := by decide +kernel
theorem dX11_signed_7 : decode cX11_signed 7 = .ok (.aload_n 0, 1) := by decide +kernel
theorem dX11_signed_8 : decode cX11_signed 8 = .ok (.invokevirtual 180, 3) := by decide +kernel
theorem dX11_signed_11 : decode cX11_signed 11 = .ok (.ifCond .eq 7, 3) := by decide +kernel
theorem dX11_signed_14 : decode cX11_signed 14 = .ok (.iconst 1, 1) := by decide +kernel
theorem dX11_signed_15 : decode cX11_signed 15 = .ok (.goto 4, 3) := by decide +kernel
theorem dX11_signed_18 : decode cX11_signed 18 = .ok (.iconst 0, 1) := by decide +kernel
theorem dX11_signed_19 : decode cX11_signed 19 = .ok (.istore_n 2, 1) := by decide +kernel
theorem dX11_signed_20 : decode cX11_signed 20 = .ok (.iload_n 2, 1) := by decide +kernel
theorem dX11_signed_21 : decode cX11_signed 21 = .ok (.ifCond .eq 7, 3) := by decide +kernel
theorem dX11_signed_24 : decode cX11_signed 24 = .ok (.aload_n 0, 1) := by decide +kernel
theorem dX11_signed_25 : decode cX11_signed 25 = .ok (.invokevirtual 239, 3) := by decide +kernel
theorem dX11_signed_28 : decode cX11_signed 28 = .ok (.aload_n 0, 1) := by decide +kernel
theorem dX11_signed_29 : decode cX11_signed 29 = .ok (.iconst 0, 1) := by decide +kernel
theorem dX11_signed_30 : decode cX11_signed 30 = .ok (.iload_n 1, 1) := by decide +kernel
theorem dX11_signed_31 : decode cX11_signed 31 = .ok (.invokevirtual 245, 3) := by decide +kernel
theorem dX11_signed_34 : decode cX11_signed 34 = .ok (.istore_n 3, 1) := by decide +kernel
theorem dX11_signed_35 : decode cX11_signed 35 = .ok (.iload_n 2, 1) := by decide +kernel
theorem dX11_signed_36 : decode cX11_signed 36 = .ok (.ifCond .eq 8, 3) := by decide +kernel
theorem dX11_signed_39 : decode cX11_signed 39 = .ok (.iload_n 3, 1) := by decide +kernel
theorem dX11_signed_40 : decode cX11_signed 40 = .ok (.ineg, 1) := by decide +kernel
theorem dX11_signed_41 : decode cX11_signed 41 = .ok (.goto 4, 3) := by decide +kernel
theorem dX11_signed_44 : decode cX11_signed 44 = .ok (.iload_n 3, 1) := by decide +kernel
theorem dX11_signed_45 : decode cX11_signed 45 = .ok (.ireturn, 1) := by decide +kernel
set_option maxRecDepth 20000 in
theorem ggX11_feed_X11_lay : GoodIn wsX11_feed wsX11_lay := goodIn_r _ [7, 8, 2, 9, 10, 11, 12, 13, 14, 15, 16, 17, 18, 19, 20, 21, 22, 23, 24, 25, 26, 27, 28, 29, 30, 31, 32, 33, 34, 35, 36, 37, 38, 39, 40, 41, 42, 43, 44, 45, 46, 47, 48, 49, 50, 51, 52, 53, 54] (by decide +kernel) (by decide +kernel)
set_option maxRecDepth 20000 in
theorem gX11_feed_X11_lay : GoodIn wsX11_feed (wsV RX11 251 RX11 yX11_lay wsX11_lay) := goodIn_app (goodIn_of _ (by decide +kernel)) ggX11_feed_X11_lay
theorem dX11_feed_0 : decode cX11_feed 0 = .ok (.aload_n 0, 1) := by decide +kernel
theorem dX11_feed_1 : decode cX11_feed 1 = .ok (.iconst 0, 1) := by decide +kernel
theorem dX11_feed_2 : decode cX11_feed 2 = .ok (.putfield 71, 3) := by decide +kernel
theorem dX11_feed_5 : decode cX11_feed 5 = .ok (.aload_n 0, 1) := by decide +kernel
theorem dX11_feed_6 : decode cX11_feed 6 = .ok (.getfield 248, 3) := by decide +kernel
theorem dX11_feed_9 : decode cX11_feed 9 = .ok (.bipush 20, 2) := by decide +kernel
theorem dX11_feed_11 : decode cX11_feed 11 = .ok (.iadd, 1) := by decide +kernel
theorem dX11_feed_12 : decode cX11_feed 12 = .ok (.sipush 900, 3) := by decide +kernel
theorem dX11_feed_15 : decode cX11_feed 15 = .ok (.if_icmp .le 5, 3) := by decide +kernel
theorem dX11_feed_18 : decode cX11_feed 18 = .ok (.iconst (-1), 1) := by decide +kernel
theorem dX11_feed_19 : decode cX11_feed 19 = .ok (.ireturn, 1) := by decide +kernel
theorem dX11_feed_20 : decode cX11_feed 20 = .ok (.aload_n 0, 1) := by decide +kernel
theorem dX11_feed_21 : decode cX11_feed 21 = .ok (.iload_n 1, 1) := by decide +kernel
theorem dX11_feed_22 : decode cX11_feed 22 = .ok (.invokevirtual 251, 3) := by decide +kernel
theorem dX11_feed_25 : decode cX11_feed 25 = .ok (.aload_n 0, 1) := by decide +kernel
theorem dX11_feed_26 : decode cX11_feed 26 = .ok (.iload_n 2, 1) := by decide +kernel
theorem dX11_feed_27 : decode cX11_feed 27 = .ok (.invokevirtual 251, 3) := by decide +kernel
theorem dX11_feed_30 : decode cX11_feed 30 = .ok (.aload_n 0, 1) := by decide +kernel
theorem dX11_feed_31 : decode cX11_feed 31 = .ok (.iload_n 3, 1) := by decide +kernel
theorem dX11_feed_32 : decode cX11_feed 32 = .ok (.invokevirtual 251, 3) := by decide +kernel
theorem dX11_feed_35 : decode cX11_feed 35 = .ok (.aload_n 0, 1) := by decide +kernel
theorem dX11_feed_36 : decode cX11_feed 36 = .ok (.iload 4, 2) := by decide +kernel
theorem dX11_feed_38 : decode cX11_feed 38 = .ok (.invokevirtual 251, 3) := by decide +kernel
theorem dX11_feed_41 : decode cX11_feed 41 = .ok (.aload_n 0, 1) := by decide +kernel
theorem dX11_feed_42 : decode cX11_feed 42 = .ok (.iload 5, 2) := by decide +kernel
theorem dX11_feed_44 : decode cX11_feed 44 = .ok (.invokevirtual 251, 3) := by decide +kernel
theorem dX11_feed_47 : decode cX11_feed 47 = .ok (.aload_n 0, 1) := by decide +kernel
theorem dX11_feed_48 : decode cX11_feed 48 = .ok (.getfield 248, 3) := by decide +kernel
theorem dX11_feed_51 : decode cX11_feed 51 = .ok (.ireturn, 1) := by decide +kernel
theorem dX11_lay_0 : decode cX11_lay 0 = .ok (.iconst 3, 1) := by decide +kernel
theorem dX11_lay_1 : decode cX11_lay 1 = .ok (.istore_n 2, 1) := by decide +kernel
theorem dX11_lay_2 : decode cX11_lay 2 = .ok (.iload_n 2, 1) := by decide +kernel
theorem dX11_lay_3 : decode cX11_lay 3 = .ok (.ifCond .lt 35, 3) := by decide +kernel
theorem dX11_lay_6 : decode cX11_lay 6 = .ok (.aload_n 0, 1) := by decide +kernel
theorem dX11_lay_7 : decode cX11_lay 7 = .ok (.getfield 24, 3) := by decide +kernel
theorem dX11_lay_10 : decode cX11_lay 10 = .ok (.aload_n 0, 1) := by decide +kernel
theorem dX11_lay_11 : decode cX11_lay 11 = .ok (.getfield 248, 3) := by decide +kernel
theorem dX11_lay_14 : decode cX11_lay 14 = .ok (.iload_n 1, 1) := by decide +kernel
theorem dX11_lay_15 : decode cX11_lay 15 = .ok (.bipush 8, 2) := by decide +kernel
theorem dX11_lay_17 : decode cX11_lay 17 = .ok (.iload_n 2, 1) := by decide +kernel
theorem dX11_lay_18 : decode cX11_lay 18 = .ok (.imul, 1) := by decide +kernel
theorem dX11_lay_19 : decode cX11_lay 19 = .ok (.ishr, 1) := by decide +kernel
theorem dX11_lay_20 : decode cX11_lay 20 = .ok (.i2b, 1) := by decide +kernel
theorem dX11_lay_21 : decode cX11_lay 21 = .ok (.bastore, 1) := by decide +kernel
theorem dX11_lay_22 : decode cX11_lay 22 = .ok (.aload_n 0, 1) := by decide +kernel
theorem dX11_lay_23 : decode cX11_lay 23 = .ok (.dup, 1) := by decide +kernel
theorem dX11_lay_24 : decode cX11_lay 24 = .ok (.getfield 248, 3) := by decide +kernel
theorem dX11_lay_27 : decode cX11_lay 27 = .ok (.iconst 1, 1) := by decide +kernel
theorem dX11_lay_28 : decode cX11_lay 28 = .ok (.iadd, 1) := by decide +kernel
theorem dX11_lay_29 : decode cX11_lay 29 = .ok (.putfield 248, 3) := by decide +kernel
theorem dX11_lay_32 : decode cX11_lay 32 = .ok (.iinc 2 (-1), 3) := by decide +kernel
theorem dX11_lay_35 : decode cX11_lay 35 = .ok (.goto (-33), 3) := by decide +kernel
theorem dX11_lay_38 : decode cX11_lay 38 = .ok (.return_, 1) := by decide +kernel
set_option maxRecDepth 20000 in
theorem ggX11_starts_X11_no : GoodIn wsX11_starts wsX11_no := goodIn_r _ [9, 10, 38, 39, 40, 41, 42, 43, 44, 45, 46, 47, 48, 49, 50, 51, 52, 53, 54, 55, 56, 57, 58, 59, 60, 61, 62, 63, 64, 65, 66, 67, 68, 69, 70, 71, 72, 73, 74, 75, 76, 77, 78, 79, 80, 81, 82, 83] (by decide +kernel) (by decide +kernel)
set_option maxRecDepth 20000 in
theorem gX11_starts_X11_no : GoodIn wsX11_starts (wsV RX11 86 RX11 yX11_no wsX11_no) := goodIn_app (goodIn_of _ (by decide +kernel)) ggX11_starts_X11_no
set_option maxRecDepth 20000 in
theorem ggX11_starts_X11_next : GoodIn wsX11_starts wsX11_next := goodIn_r _ [14, 3, 15, 2, 16, 17, 18, 19, 20, 21, 22, 23, 24, 25, 8, 26, 27, 28, 29, 30, 31, 32, 33, 34, 35, 36, 37, 38, 39, 40, 41, 42, 43, 44, 45, 46, 47, 48, 49, 50, 51, 52, 53, 54, 55, 56, 57, 58, 59, 60, 61, 62, 63, 64, 65, 66, 67, 68, 69, 70, 71, 72, 73, 74, 75, 76, 77, 78, 79, 80, 81, 82, 83] (by decide +kernel) (by decide +kernel)
set_option maxRecDepth 20000 in
theorem gX11_starts_X11_next : GoodIn wsX11_starts (wsV RX11 239 RX11 yX11_next wsX11_next) := goodIn_app (goodIn_of _ (by decide +kernel)) ggX11_starts_X11_next
theorem dX11_starts_0 : decode cX11_starts 0 = .ok (.iload_n 1, 1) := by decide +kernel
theorem dX11_starts_1 : decode cX11_starts 1 = .ok (.ifCond .lt 16, 3) := by decide +kernel
theorem dX11_starts_4 : decode cX11_starts 4 = .ok (.iload_n 1, 1) := by decide +kernel
theorem dX11_starts_5 : decode cX11_starts 5 = .ok (.aload_n 0, 1) := by decide +kernel
theorem dX11_starts_6 : decode cX11_starts 6 = .ok (.getfield 248, 3) := by decide +kernel
theorem dX11_starts_9 : decode cX11_starts 9 = .ok (.if_icmp .gt 8, 3) := by decide +kernel
theorem dX11_starts_12 : decode cX11_starts 12 = .ok (.iload_n 1, 1) := by decide +kernel
theorem dX11_starts_13 : decode cX11_starts 13 = .ok (.iload_n 2, 1) := by decide +kernel
theorem dX11_starts_14 : decode cX11_starts 14 = .ok (.if_icmp .le 9, 3) := by decide +kernel
theorem dX11_starts_17 : decode cX11_starts 17 = .ok (.aload_n 0, 1) := by decide +kernel
theorem dX11_starts_18 : decode cX11_starts 18 = .ok (.iconst 5, 1) := by decide +kernel
theorem dX11_starts_19 : decode cX11_starts 19 = .ok (.invokevirtual 86, 3) := by decide +kernel
theorem dX11_starts_22 : decode cX11_starts 22 = .ok (.ireturn, 1) := by decide +kernel
theorem dX11_starts_23 : decode cX11_starts 23 = .ok (.aload_n 0, 1) := by decide +kernel
theorem dX11_starts_24 : decode cX11_starts 24 = .ok (.iload_n 1, 1) := by decide +kernel
theorem dX11_starts_25 : decode cX11_starts 25 = .ok (.putfield 114, 3) := by decide +kernel
theorem dX11_starts_28 : decode cX11_starts 28 = .ok (.aload_n 0, 1) := by decide +kernel
theorem dX11_starts_29 : decode cX11_starts 29 = .ok (.iconst 0, 1) := by decide +kernel
theorem dX11_starts_30 : decode cX11_starts 30 = .ok (.putfield 248, 3) := by decide +kernel
theorem dX11_starts_33 : decode cX11_starts 33 = .ok (.aload_n 0, 1) := by decide +kernel
theorem dX11_starts_34 : decode cX11_starts 34 = .ok (.iconst 0, 1) := by decide +kernel
theorem dX11_starts_35 : decode cX11_starts 35 = .ok (.putfield 117, 3) := by decide +kernel
theorem dX11_starts_38 : decode cX11_starts 38 = .ok (.aload_n 0, 1) := by decide +kernel
theorem dX11_starts_39 : decode cX11_starts 39 = .ok (.iconst 0, 1) := by decide +kernel
theorem dX11_starts_40 : decode cX11_starts 40 = .ok (.putfield 229, 3) := by decide +kernel
theorem dX11_starts_43 : decode cX11_starts 43 = .ok (.aload_n 0, 1) := by decide +kernel
theorem dX11_starts_44 : decode cX11_starts 44 = .ok (.invokevirtual 239, 3) := by decide +kernel
theorem dX11_starts_47 : decode cX11_starts 47 = .ok (.iconst 1, 1) := by decide +kernel
theorem dX11_starts_48 : decode cX11_starts 48 = .ok (.ireturn, 1) := by decide +kernel
set_option maxRecDepth 20000 in
theorem ggX11_isWell_X11_no : GoodIn wsX11_isWell wsX11_no := goodIn_r _ [9, 10, 11, 12, 13, 14, 15, 16, 17, 18, 19, 20, 21, 22, 23, 24, 25, 26, 27, 28, 29, 30, 31, 32, 33, 34, 35, 36, 37, 38, 39, 40, 41, 42, 43, 44, 45, 46, 47, 48, 49, 50, 51, 52, 53, 54, 55, 56] (by decide +kernel) (by decide +kernel)
set_option maxRecDepth 20000 in
theorem gX11_isWell_X11_no : GoodIn wsX11_isWell (wsV RX11 86 RX11 yX11_no wsX11_no) := goodIn_app (goodIn_of _ (by decide +kernel)) ggX11_isWell_X11_no
theorem dX11_isWell_0 : decode cX11_isWell 0 = .ok (.aload_n 0, 1) := by decide +kernel
theorem dX11_isWell_1 : decode cX11_isWell 1 = .ok (.aload_n 0, 1) := by decide +kernel
theorem dX11_isWell_2 : decode cX11_isWell 2 = .ok (.getfield 229, 3) := by decide +kernel
theorem dX11_isWell_5 : decode cX11_isWell 5 = .ok (.putfield 28, 3) := by decide +kernel
theorem dX11_isWell_8 : decode cX11_isWell 8 = .ok (.aload_n 0, 1) := by decide +kernel
theorem dX11_isWell_9 : decode cX11_isWell 9 = .ok (.aload_n 0, 1) := by decide +kernel
theorem dX11_isWell_10 : decode cX11_isWell 10 = .ok (.getfield 229, 3) := by decide +kernel
theorem dX11_isWell_13 : decode cX11_isWell 13 = .ok (.ifCond .ne 7, 3) := by decide +kernel
theorem dX11_isWell_16 : decode cX11_isWell 16 = .ok (.iconst (-1), 1) := by decide +kernel
theorem dX11_isWell_17 : decode cX11_isWell 17 = .ok (.goto 7, 3) := by decide +kernel
theorem dX11_isWell_20 : decode cX11_isWell 20 = .ok (.aload_n 0, 1) := by decide +kernel
theorem dX11_isWell_21 : decode cX11_isWell 21 = .ok (.getfield 232, 3) := by decide +kernel
theorem dX11_isWell_24 : decode cX11_isWell 24 = .ok (.putfield 32, 3) := by decide +kernel
theorem dX11_isWell_27 : decode cX11_isWell 27 = .ok (.aload_n 0, 1) := by decide +kernel
theorem dX11_isWell_28 : decode cX11_isWell 28 = .ok (.getfield 229, 3) := by decide +kernel
theorem dX11_isWell_31 : decode cX11_isWell 31 = .ok (.ifCond .eq 12, 3) := by decide +kernel
theorem dX11_isWell_34 : decode cX11_isWell 34 = .ok (.aload_n 0, 1) := by decide +kernel
theorem dX11_isWell_35 : decode cX11_isWell 35 = .ok (.bipush 10, 2) := by decide +kernel
theorem dX11_isWell_37 : decode cX11_isWell 37 = .ok (.invokevirtual 86, 3) := by decide +kernel
theorem dX11_isWell_40 : decode cX11_isWell 40 = .ok (.ifCond .eq 7, 3) := by decide +kernel
theorem dX11_isWell_43 : decode cX11_isWell 43 = .ok (.iconst 1, 1) := by decide +kernel
theorem dX11_isWell_44 : decode cX11_isWell 44 = .ok (.goto 4, 3) := by decide +kernel
theorem dX11_isWell_47 : decode cX11_isWell 47 = .ok (.iconst 0, 1) := by decide +kernel
theorem dX11_isWell_48 : decode cX11_isWell 48 = .ok (.ireturn, 1) := by decide +kernel
theorem dX11_fault_0 : decode cX11_fault 0 = .ok (.aload_n 0, 1) := by decide +kernel
theorem dX11_fault_1 : decode cX11_fault 1 = .ok (.iconst 0, 1) := by decide +kernel
theorem dX11_fault_2 : decode cX11_fault 2 = .ok (.putfield 71, 3) := by decide +kernel
theorem dX11_fault_5 : decode cX11_fault 5 = .ok (.iload_n 1, 1) := by decide +kernel
theorem dX11_fault_6 : decode cX11_fault 6 = .ok (.ifCond .ne 10, 3) := by decide +kernel
theorem dX11_fault_9 : decode cX11_fault 9 = .ok (.aload_n 0, 1) := by decide +kernel
theorem dX11_fault_10 : decode cX11_fault 10 = .ok (.getfield 28, 3) := by decide +kernel
theorem dX11_fault_13 : decode cX11_fault 13 = .ok (.goto 16, 3) := by decide +kernel
theorem dX11_fault_16 : decode cX11_fault 16 = .ok (.iload_n 1, 1) := by decide +kernel
theorem dX11_fault_17 : decode cX11_fault 17 = .ok (.iconst 1, 1) := by decide +kernel
theorem dX11_fault_18 : decode cX11_fault 18 = .ok (.if_icmp .ne 10, 3) := by decide +kernel
theorem dX11_fault_21 : decode cX11_fault 21 = .ok (.aload_n 0, 1) := by decide +kernel
theorem dX11_fault_22 : decode cX11_fault 22 = .ok (.getfield 32, 3) := by decide +kernel
theorem dX11_fault_25 : decode cX11_fault 25 = .ok (.goto 4, 3) := by decide +kernel
theorem dX11_fault_28 : decode cX11_fault 28 = .ok (.iconst (-1), 1) := by decide +kernel
theorem dX11_fault_29 : decode cX11_fault 29 = .ok (.ireturn, 1) := by decide +kernel
theorem dX11_fromOf_0 : decode cX11_fromOf 0 = .ok (.iload_n 0, 1) := by decide +kernel
theorem dX11_fromOf_1 : decode cX11_fromOf 1 = .ok (.ifCond .ne 7, 3) := by decide +kernel
theorem dX11_fromOf_4 : decode cX11_fromOf 4 = .ok (.iconst 0, 1) := by decide +kernel
theorem dX11_fromOf_5 : decode cX11_fromOf 5 = .ok (.goto 25, 3) := by decide +kernel
theorem dX11_fromOf_8 : decode cX11_fromOf 8 = .ok (.iload_n 0, 1) := by decide +kernel
theorem dX11_fromOf_9 : decode cX11_fromOf 9 = .ok (.iconst 1, 1) := by decide +kernel
theorem dX11_fromOf_10 : decode cX11_fromOf 10 = .ok (.if_icmp .ne 8, 3) := by decide +kernel
theorem dX11_fromOf_13 : decode cX11_fromOf 13 = .ok (.bipush 10, 2) := by decide +kernel
theorem dX11_fromOf_15 : decode cX11_fromOf 15 = .ok (.goto 15, 3) := by decide +kernel
theorem dX11_fromOf_18 : decode cX11_fromOf 18 = .ok (.iload_n 0, 1) := by decide +kernel
theorem dX11_fromOf_19 : decode cX11_fromOf 19 = .ok (.iconst 2, 1) := by decide +kernel
theorem dX11_fromOf_20 : decode cX11_fromOf 20 = .ok (.if_icmp .ne 8, 3) := by decide +kernel
theorem dX11_fromOf_23 : decode cX11_fromOf 23 = .ok (.bipush 16, 2) := by decide +kernel
theorem dX11_fromOf_25 : decode cX11_fromOf 25 = .ok (.goto 5, 3) := by decide +kernel
theorem dX11_fromOf_28 : decode cX11_fromOf 28 = .ok (.bipush 22, 2) := by decide +kernel
theorem dX11_fromOf_30 : decode cX11_fromOf 30 = .ok (.ireturn, 1) := by decide +kernel
set_option maxRecDepth 20000 in
theorem ggX11_named_X11_fromOf : GoodIn wsX11_named wsX11_fromOf := goodIn_r _ [7] (by decide +kernel) (by decide +kernel)
set_option maxRecDepth 20000 in
theorem gX11_named_X11_fromOf : GoodIn wsX11_named (va_wsS RX11 255 yX11_fromOf wsX11_fromOf) := goodIn_app (goodIn_of _ (by decide +kernel)) ggX11_named_X11_fromOf
theorem dX11_named_0 : decode cX11_named 0 = .ok (.iconst 0, 1) := by decide +kernel
theorem dX11_named_1 : decode cX11_named 1 = .ok (.istore_n 3, 1) := by decide +kernel
theorem dX11_named_2 : decode cX11_named 2 = .ok (.iload_n 3, 1) := by decide +kernel
theorem dX11_named_3 : decode cX11_named 3 = .ok (.aload_n 0, 1) := by decide +kernel
theorem dX11_named_4 : decode cX11_named 4 = .ok (.getfield 35, 3) := by decide +kernel
theorem dX11_named_7 : decode cX11_named 7 = .ok (.sipush 475, 3) := by decide +kernel
theorem dX11_named_10 : decode cX11_named 10 = .ok (.iload_n 1, 1) := by decide +kernel
theorem dX11_named_11 : decode cX11_named 11 = .ok (.imul, 1) := by decide +kernel
theorem dX11_named_12 : decode cX11_named 12 = .ok (.iload_n 2, 1) := by decide +kernel
theorem dX11_named_13 : decode cX11_named 13 = .ok (.iadd, 1) := by decide +kernel
theorem dX11_named_14 : decode cX11_named 14 = .ok (.iaload, 1) := by decide +kernel
theorem dX11_named_15 : decode cX11_named 15 = .ok (.if_icmp .ge 35, 3) := by decide +kernel
theorem dX11_named_18 : decode cX11_named 18 = .ok (.aload_n 0, 1) := by decide +kernel
theorem dX11_named_19 : decode cX11_named 19 = .ok (.getfield 41, 3) := by decide +kernel
theorem dX11_named_22 : decode cX11_named 22 = .ok (.bipush 26, 2) := by decide +kernel
theorem dX11_named_24 : decode cX11_named 24 = .ok (.iload_n 1, 1) := by decide +kernel
theorem dX11_named_25 : decode cX11_named 25 = .ok (.imul, 1) := by decide +kernel
theorem dX11_named_26 : decode cX11_named 26 = .ok (.iload_n 2, 1) := by decide +kernel
theorem dX11_named_27 : decode cX11_named 27 = .ok (.invokestatic 255, 3) := by decide +kernel
theorem dX11_named_30 : decode cX11_named 30 = .ok (.iadd, 1) := by decide +kernel
theorem dX11_named_31 : decode cX11_named 31 = .ok (.iload_n 3, 1) := by decide +kernel
theorem dX11_named_32 : decode cX11_named 32 = .ok (.iadd, 1) := by decide +kernel
theorem dX11_named_33 : decode cX11_named 33 = .ok (.laload, 1) := by decide +kernel
theorem dX11_named_34 : decode cX11_named 34 = .ok (.aload_n 0, 1) := by decide +kernel
theorem dX11_named_35 : decode cX11_named 35 = .ok (.getfield 132, 3) := by decide +kernel
theorem dX11_named_38 : decode cX11_named 38 = .ok (.lcmp, 1) := by decide +kernel
theorem dX11_named_39 : decode cX11_named 39 = .ok (.ifCond .ne 5, 3) := by decide +kernel
theorem dX11_named_42 : decode cX11_named 42 = .ok (.iload_n 3, 1) := by decide +kernel
theorem dX11_named_43 : decode cX11_named 43 = .ok (.ireturn, 1) := by decide +kernel
theorem dX11_named_44 : decode cX11_named 44 = .ok (.iinc 3 1, 3) := by decide +kernel
theorem dX11_named_47 : decode cX11_named 47 = .ok (.goto (-45), 3) := by decide +kernel
theorem dX11_named_50 : decode cX11_named 50 = .ok (.iconst (-1), 1) := by decide +kernel
theorem dX11_named_51 : decode cX11_named 51 = .ok (.ireturn, 1) := by decide +kernel
set_option maxRecDepth 20000 in
theorem ggX11_readNew_X11_fail : GoodIn wsX11_readNew wsX11_fail := goodIn_r _ [10, 3, 11, 145, 146, 147, 148, 149, 150, 151, 152, 153, 154, 155, 156, 157, 158, 159, 160, 161, 162, 163, 164, 165, 166, 167, 168, 169, 170, 171, 172, 173, 174, 175, 176, 177, 178, 179, 180, 181, 182, 183, 184, 185, 186, 187, 188, 189, 190] (by decide +kernel) (by decide +kernel)
set_option maxRecDepth 20000 in
theorem gX11_readNew_X11_fail : GoodIn wsX11_readNew (wsV RX11 235 RX11 yX11_fail wsX11_fail) := goodIn_app (goodIn_of _ (by decide +kernel)) ggX11_readNew_X11_fail
set_option maxRecDepth 20000 in
theorem ggX11_readNew_X11_next : GoodIn wsX11_readNew wsX11_next := goodIn_r _ [15, 16, 2, 17, 18, 5, 19, 20, 21, 22, 23, 24, 25, 26, 9, 27, 28, 29, 30, 31, 32, 33, 34, 35, 36, 37, 38, 145, 146, 147, 148, 149, 150, 151, 152, 153, 154, 155, 156, 157, 158, 159, 160, 161, 162, 163, 164, 165, 166, 167, 168, 169, 170, 171, 172, 173, 174, 175, 176, 177, 178, 179, 180, 181, 182, 183, 184, 185, 186, 187, 188, 189, 190] (by decide +kernel) (by decide +kernel)
set_option maxRecDepth 20000 in
theorem gX11_readNew_X11_next : GoodIn wsX11_readNew (wsV RX11 239 RX11 yX11_next wsX11_next) := goodIn_app (goodIn_of _ (by decide +kernel)) ggX11_readNew_X11_next
set_option maxRecDepth 20000 in
theorem ggX11_readNew_X11_isName : GoodIn wsX11_readNew wsX11_isName := goodIn_r _ [42, 18, 22, 43, 44, 45, 9, 46, 47, 48, 49, 50, 51, 52, 53, 20, 19, 54, 55, 56, 57, 5, 58, 59, 60, 61, 62, 63, 64, 65, 66, 67, 68, 69, 70, 71, 72, 73, 74, 75, 76, 77, 78, 79, 80, 81, 82, 83, 84, 85, 86, 87, 88, 89, 90, 91, 92, 93, 94, 95, 96, 97, 98, 99, 100, 101, 102, 103, 104, 105, 106, 107, 108, 109, 110, 111, 112, 113, 114, 115, 116, 117, 118, 119, 120, 121, 122, 123, 124, 125, 126, 127, 128, 129, 130, 131, 132, 133, 145, 146, 147, 148, 149, 150, 151, 152, 153, 154, 155, 156, 157, 158, 159, 160, 161, 162, 163, 164, 165, 166, 167, 168, 169, 170, 171, 172, 173, 174, 175, 176, 177, 178, 179, 180, 181, 182, 183, 184, 185, 186, 187, 188, 189, 190] (by decide +kernel) (by decide +kernel)
set_option maxRecDepth 20000 in
theorem gX11_readNew_X11_isName : GoodIn wsX11_readNew (wsV RX11 258 RX11 yX11_isName wsX11_isName) := goodIn_app (goodIn_of _ (by decide +kernel)) ggX11_readNew_X11_isName
set_option maxRecDepth 20000 in
theorem ggX11_readNew_X11_wrong : GoodIn wsX11_readNew wsX11_wrong := goodIn_r _ [137, 18, 2, 6, 7, 8, 9, 10, 3, 11, 145, 146, 147, 148, 149, 150, 151, 152, 153, 154, 155, 156, 157, 158, 159, 160, 161, 162, 163, 164, 165, 166, 167, 168, 169, 170, 171, 172, 173, 174, 175, 176, 177, 178, 179, 180, 181, 182, 183, 184, 185, 186, 187, 188, 189, 190] (by decide +kernel) (by decide +kernel)
set_option maxRecDepth 20000 in
theorem gX11_readNew_X11_wrong : GoodIn wsX11_readNew (wsV RX11 242 RX11 yX11_wrong wsX11_wrong) := goodIn_app (goodIn_of _ (by decide +kernel)) ggX11_readNew_X11_wrong
set_option maxRecDepth 20000 in
theorem ggX11_readNew_X11_named : GoodIn wsX11_readNew wsX11_named := goodIn_r _ [141, 1, 4, 5, 142, 143, 9, 144, 145, 146, 147, 148, 149, 150, 151, 152, 153, 154, 155, 156, 157, 158, 159, 160, 161, 162, 163, 164, 165, 166, 167, 168, 169, 170, 171, 172, 173, 174, 175, 176, 177, 178, 179, 180, 181, 182, 183, 184, 185, 186, 187, 188, 189, 190] (by decide +kernel) (by decide +kernel)
set_option maxRecDepth 20000 in
theorem gX11_readNew_X11_named : GoodIn wsX11_readNew (wsV RX11 261 RX11 yX11_named wsX11_named) := goodIn_app (goodIn_of _ (by decide +kernel)) ggX11_readNew_X11_named
set_option maxRecDepth 20000 in
theorem ggX11_readNew_X11_fromOf : GoodIn wsX11_readNew wsX11_fromOf := goodIn_r _ [144] (by decide +kernel) (by decide +kernel)
set_option maxRecDepth 20000 in
theorem gX11_readNew_X11_fromOf : GoodIn wsX11_readNew (va_wsS RX11 255 yX11_fromOf wsX11_fromOf) := goodIn_app (goodIn_of _ (by decide +kernel)) ggX11_readNew_X11_fromOf
theorem dX11_readNew_0 : decode cX11_readNew 0 = .ok (.aload_n 0, 1) := by decide +kernel
theorem dX11_readNew_1 : decode cX11_readNew 1 = .ok (.getfield 35, 3) := by decide +kernel
theorem dX11_readNew_4 : decode cX11_readNew 4 = .ok (.sipush 1900, 3) := by decide +kernel
theorem dX11_readNew_7 : decode cX11_readNew 7 = .ok (.iload_n 1, 1) := by decide +kernel
theorem dX11_readNew_8 : decode cX11_readNew 8 = .ok (.iadd, 1) := by decide +kernel
theorem dX11_readNew_9 : decode cX11_readNew 9 = .ok (.iaload, 1) := by decide +kernel
theorem dX11_readNew_10 : decode cX11_readNew 10 = .ok (.istore_n 3, 1) := by decide +kernel
theorem dX11_readNew_11 : decode cX11_readNew 11 = .ok (.iload_n 3, 1) := by decide +kernel
theorem dX11_readNew_12 : decode cX11_readNew 12 = .ok (.iload_n 2, 1) := by decide +kernel
theorem dX11_readNew_13 : decode cX11_readNew 13 = .ok (.if_icmp .ne 13, 3) := by decide +kernel
theorem dX11_readNew_16 : decode cX11_readNew 16 = .ok (.aload_n 0, 1) := by decide +kernel
theorem dX11_readNew_17 : decode cX11_readNew 17 = .ok (.bipush 6, 2) := by decide +kernel
theorem dX11_readNew_19 : decode cX11_readNew 19 = .ok (.aload_n 0, 1) := by decide +kernel
theorem dX11_readNew_20 : decode cX11_readNew 20 = .ok (.getfield 120, 3) := by decide +kernel
theorem dX11_readNew_23 : decode cX11_readNew 23 = .ok (.invokevirtual 235, 3) := by decide +kernel
theorem dX11_readNew_26 : decode cX11_readNew 26 = .ok (.aload_n 0, 1) := by decide +kernel
theorem dX11_readNew_27 : decode cX11_readNew 27 = .ok (.getfield 229, 3) := by decide +kernel
theorem dX11_readNew_30 : decode cX11_readNew 30 = .ok (.ifCond .le 5, 3) := by decide +kernel
theorem dX11_readNew_33 : decode cX11_readNew 33 = .ok (.iconst 0, 1) := by decide +kernel
theorem dX11_readNew_34 : decode cX11_readNew 34 = .ok (.ireturn, 1) := by decide +kernel
theorem dX11_readNew_35 : decode cX11_readNew 35 = .ok (.aload_n 0, 1) := by decide +kernel
theorem dX11_readNew_36 : decode cX11_readNew 36 = .ok (.invokevirtual 239, 3) := by decide +kernel
theorem dX11_readNew_39 : decode cX11_readNew 39 = .ok (.aload_n 0, 1) := by decide +kernel
theorem dX11_readNew_40 : decode cX11_readNew 40 = .ok (.invokevirtual 258, 3) := by decide +kernel
theorem dX11_readNew_43 : decode cX11_readNew 43 = .ok (.ifCond .ne 7, 3) := by decide +kernel
theorem dX11_readNew_46 : decode cX11_readNew 46 = .ok (.aload_n 0, 1) := by decide +kernel
